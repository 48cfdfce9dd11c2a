/-! WORDS: those that the walks use, by their places -/
theorem q1 : Cond.selects RX5 yX5_byteAt yX5_byteAt ∈ lw_all := lw_q 1 (by decide +kernel) rfl
theorem q2 : Cond.selects RX4 yX4_readClause yX4_readClause ∈ lw_all := lw_q 2 (by decide +kernel) rfl
theorem q3 : Cond.selects RX4 yX4_readLeg yX4_readLeg ∈ lw_all := lw_q 3 (by decide +kernel) rfl
theorem q4 : Cond.selects RX4 yX4_readTube yX4_readTube ∈ lw_all := lw_q 4 (by decide +kernel) rfl
theorem q5 : Cond.selects RX3 yX3_settleLeg yX3_settleLeg ∈ lw_all := lw_q 5 (by decide +kernel) rfl
theorem q6 : Cond.selects RX3 yX3_greatestLevel yX3_greatestLevel ∈ lw_all := lw_q 6 (by decide +kernel) rfl
theorem q7 : Cond.selects RX3 yX3_fullVolumes yX3_fullVolumes ∈ lw_all := lw_q 7 (by decide +kernel) rfl
theorem q8 : Cond.selects RX3 yX3_breakTubes yX3_breakTubes ∈ lw_all := lw_q 8 (by decide +kernel) rfl
theorem q9 : Cond.selects RX7 yX7_requirePoint yX7_requirePoint ∈ lw_all := lw_q 9 (by decide +kernel) rfl
theorem q10 : Cond.selects RX7 yX7_requireTube yX7_requireTube ∈ lw_all := lw_q 10 (by decide +kernel) rfl
theorem q11 : Cond.selects RX7 yX7_tryPressure yX7_tryPressure ∈ lw_all := lw_q 11 (by decide +kernel) rfl
theorem q12 : Cond.selects RX2 yX2_test yX2_test ∈ lw_all := lw_q 12 (by decide +kernel) rfl
theorem q13 : Cond.selects RX2 yX2_conjunction yX2_conjunction ∈ lw_all := lw_q 13 (by decide +kernel) rfl
theorem q14 : Cond.selects RX2 yX2_factor yX2_factor ∈ lw_all := lw_q 14 (by decide +kernel) rfl
theorem q15 : Cond.selects RX2 yX2_comparison yX2_comparison ∈ lw_all := lw_q 15 (by decide +kernel) rfl
theorem q16 : Cond.selects RX2 yX2_operand yX2_operand ∈ lw_all := lw_q 16 (by decide +kernel) rfl
theorem q17 : Cond.selects RX2 yX2_propertyNamed yX2_propertyNamed ∈ lw_all := lw_q 17 (by decide +kernel) rfl
theorem q18 : Cond.selects RX2 yX2_valueFor yX2_valueFor ∈ lw_all := lw_q 18 (by decide +kernel) rfl
theorem q19 : Cond.selects RX8 yX8_begins yX8_begins ∈ lw_all := lw_q 19 (by decide +kernel) rfl
theorem q20 : Cond.selects RX8 yX8_laysLeg yX8_laysLeg ∈ lw_all := lw_q 20 (by decide +kernel) rfl
theorem q21 : Cond.selects RX8 yX8_lays yX8_lays ∈ lw_all := lw_q 21 (by decide +kernel) rfl
theorem q22 : Cond.selects RX8 yX8_fails yX8_fails ∈ lw_all := lw_q 22 (by decide +kernel) rfl
theorem q23 : Cond.selects RX8 yX8_laysAside yX8_laysAside ∈ lw_all := lw_q 23 (by decide +kernel) rfl
theorem q24 : Cond.selects RX8 yX8_starts yX8_starts ∈ lw_all := lw_q 24 (by decide +kernel) rfl
theorem q25 : Cond.selects RX8 yX8_next yX8_next ∈ lw_all := lw_q 25 (by decide +kernel) rfl
theorem q26 : Cond.selects RX8 yX8_byteAt yX8_byteAt ∈ lw_all := lw_q 26 (by decide +kernel) rfl
theorem q27 : Cond.selects RX8 yX8_readsWord yX8_readsWord ∈ lw_all := lw_q 27 (by decide +kernel) rfl
theorem q28 : Cond.selects RX8 yX8_readsNumber yX8_readsNumber ∈ lw_all := lw_q 28 (by decide +kernel) rfl
theorem q29 : Cond.selects RX8 yX8_readsAll yX8_readsAll ∈ lw_all := lw_q 29 (by decide +kernel) rfl
theorem q30 : Cond.selects RX8 yX8_passes yX8_passes ∈ lw_all := lw_q 30 (by decide +kernel) rfl
theorem q31 : Cond.selects RX8 yX8_isWord yX8_isWord ∈ lw_all := lw_q 31 (by decide +kernel) rfl
theorem q32 : Cond.selects RX8 yX8_isGood yX8_isGood ∈ lw_all := lw_q 32 (by decide +kernel) rfl
theorem q33 : Cond.selects RX8 yX8_wrongs yX8_wrongs ∈ lw_all := lw_q 33 (by decide +kernel) rfl
theorem q34 : Cond.selects RX8 yX8_number yX8_number ∈ lw_all := lw_q 34 (by decide +kernel) rfl
theorem q35 : Cond.selects RX8 yX8_must yX8_must ∈ lw_all := lw_q 35 (by decide +kernel) rfl
theorem q36 : Cond.selects RX8 yX8_isByte yX8_isByte ∈ lw_all := lw_q 36 (by decide +kernel) rfl
theorem q37 : Cond.selects RX8 yX8_readsTube yX8_readsTube ∈ lw_all := lw_q 37 (by decide +kernel) rfl
theorem q38 : Cond.selects RX8 yX8_signed yX8_signed ∈ lw_all := lw_q 38 (by decide +kernel) rfl
theorem q39 : Cond.selects RX8 yX8_laysTube yX8_laysTube ∈ lw_all := lw_q 39 (by decide +kernel) rfl
theorem q40 : Cond.selects RX8 yX8_readsLeg yX8_readsLeg ∈ lw_all := lw_q 40 (by decide +kernel) rfl
theorem q41 : Cond.selects RX8 yX8_readsPressure yX8_readsPressure ∈ lw_all := lw_q 41 (by decide +kernel) rfl
theorem q42 : Cond.selects RX8 yX8_laysBack yX8_laysBack ∈ lw_all := lw_q 42 (by decide +kernel) rfl
theorem q43 : Cond.selects RX8 yX8_settles yX8_settles ∈ lw_all := lw_q 43 (by decide +kernel) rfl
theorem q44 : Cond.selects RX8 yX8_breaks yX8_breaks ∈ lw_all := lw_q 44 (by decide +kernel) rfl
theorem q45 : Cond.selects RX8 yX8_levelOf yX8_levelOf ∈ lw_all := lw_q 45 (by decide +kernel) rfl
theorem q46 : Cond.selects RX8 yX8_ofLeg yX8_ofLeg ∈ lw_all := lw_q 46 (by decide +kernel) rfl
theorem q47 : Cond.selects RX8 yX8_of yX8_of ∈ lw_all := lw_q 47 (by decide +kernel) rfl
theorem q48 : Cond.selects RX8 yX8_fullOf yX8_fullOf ∈ lw_all := lw_q 48 (by decide +kernel) rfl
theorem q49 : Cond.selects RX8 yX8_volumeFor yX8_volumeFor ∈ lw_all := lw_q 49 (by decide +kernel) rfl
theorem q50 : Cond.selects RX8 yX8_volumesAt yX8_volumesAt ∈ lw_all := lw_q 50 (by decide +kernel) rfl
theorem q51 : Cond.selects RX8 yX8_columnAt yX8_columnAt ∈ lw_all := lw_q 51 (by decide +kernel) rfl
theorem q52 : Cond.selects RX8 yX8_isWhole yX8_isWhole ∈ lw_all := lw_q 52 (by decide +kernel) rfl
theorem q53 : Cond.selects RX8 yX8_runAt yX8_runAt ∈ lw_all := lw_q 53 (by decide +kernel) rfl
theorem q54 : Cond.selects RX8 yX8_pullOf yX8_pullOf ∈ lw_all := lw_q 54 (by decide +kernel) rfl
theorem q55 : Cond.selects RX8 yX8_meniscusOf yX8_meniscusOf ∈ lw_all := lw_q 55 (by decide +kernel) rfl
theorem q56 : Cond.selects RX8 yX8_many yX8_many ∈ lw_all := lw_q 56 (by decide +kernel) rfl
theorem q57 : Cond.selects RX8 yX8_inLeg yX8_inLeg ∈ lw_all := lw_q 57 (by decide +kernel) rfl
theorem q58 : Cond.selects RX8 yX8_isPoint yX8_isPoint ∈ lw_all := lw_q 58 (by decide +kernel) rfl
theorem q59 : Cond.selects RX8 yX8_leftOf yX8_leftOf ∈ lw_all := lw_q 59 (by decide +kernel) rfl
theorem q60 : Cond.selects RX8 yX8_isTube yX8_isTube ∈ lw_all := lw_q 60 (by decide +kernel) rfl
theorem q61 : Cond.selects RX8 yX8_columnOf yX8_columnOf ∈ lw_all := lw_q 61 (by decide +kernel) rfl
theorem q62 : Cond.selects RX8 yX8_readingOf yX8_readingOf ∈ lw_all := lw_q 62 (by decide +kernel) rfl
theorem q63 : Cond.selects RX8 yX8_toldBy yX8_toldBy ∈ lw_all := lw_q 63 (by decide +kernel) rfl
theorem q64 : Cond.selects RX8 yX8_upright yX8_upright ∈ lw_all := lw_q 64 (by decide +kernel) rfl
theorem q65 : Cond.selects RX8 yX8_offOf yX8_offOf ∈ lw_all := lw_q 65 (by decide +kernel) rfl
theorem q66 : Cond.selects RX8 yX8_differenceOf yX8_differenceOf ∈ lw_all := lw_q 66 (by decide +kernel) rfl
theorem q67 : Cond.selects RX8 yX8_nextWhole yX8_nextWhole ∈ lw_all := lw_q 67 (by decide +kernel) rfl
theorem q68 : Cond.selects RX8 yX8_brokenAside yX8_brokenAside ∈ lw_all := lw_q 68 (by decide +kernel) rfl
theorem q69 : Cond.selects RX8 yX8_sets yX8_sets ∈ lw_all := lw_q 69 (by decide +kernel) rfl
theorem q70 : Cond.selects RX8 yX8_keeps yX8_keeps ∈ lw_all := lw_q 70 (by decide +kernel) rfl
theorem q71 : Cond.selects RX8 yX8_writesNumber yX8_writesNumber ∈ lw_all := lw_q 71 (by decide +kernel) rfl
theorem q72 : Cond.selects RX8 yX8_writes yX8_writes ∈ lw_all := lw_q 72 (by decide +kernel) rfl
theorem q73 : Cond.selects RX8 yX8_writesSigned yX8_writesSigned ∈ lw_all := lw_q 73 (by decide +kernel) rfl
theorem q74 : Cond.selects RX8 yX8_writesWord yX8_writesWord ∈ lw_all := lw_q 74 (by decide +kernel) rfl
theorem q75 : Cond.selects RX8 yX8_reads yX8_reads ∈ lw_all := lw_q 75 (by decide +kernel) rfl
theorem q76 : Cond.selects RX8 yX8_comparisonRead yX8_comparisonRead ∈ lw_all := lw_q 76 (by decide +kernel) rfl
theorem q77 : Cond.selects RX8 yX8_goesIn yX8_goesIn ∈ lw_all := lw_q 77 (by decide +kernel) rfl
theorem q78 : Cond.selects RX8 yX8_valueRead yX8_valueRead ∈ lw_all := lw_q 78 (by decide +kernel) rfl
theorem q79 : Cond.selects RX8 yX8_adds yX8_adds ∈ lw_all := lw_q 79 (by decide +kernel) rfl
theorem q80 : Cond.selects RX8 yX8_propertyHere yX8_propertyHere ∈ lw_all := lw_q 80 (by decide +kernel) rfl
theorem q81 : Cond.selects RX8 yX8_closes yX8_closes ∈ lw_all := lw_q 81 (by decide +kernel) rfl
theorem q82 : Cond.selects RX8 yX8_settles_ yX8_settles_ ∈ lw_all := lw_q 82 (by decide +kernel) rfl
theorem q83 : Cond.selects RX8 yX8_isInside yX8_isInside ∈ lw_all := lw_q 83 (by decide +kernel) rfl
theorem q84 : Cond.selects RX8 yX8_holds yX8_holds ∈ lw_all := lw_q 84 (by decide +kernel) rfl
theorem q85 : Cond.selects RX8 yX8_propertyOf yX8_propertyOf ∈ lw_all := lw_q 85 (by decide +kernel) rfl
theorem q87 : Cond.initialized RX7 ∈ lw_all := lw_q 87 (by decide +kernel) rfl
theorem q88 : Cond.initialized RX3 ∈ lw_all := lw_q 88 (by decide +kernel) rfl
theorem q89 : Cond.initialized RX1 ∈ lw_all := lw_q 89 (by decide +kernel) rfl
theorem q90 : Cond.initialized RX6 ∈ lw_all := lw_q 90 (by decide +kernel) rfl
theorem q91 : Cond.initialized RX0 ∈ lw_all := lw_q 91 (by decide +kernel) rfl
theorem q92 : Cond.initialized RX5 ∈ lw_all := lw_q 92 (by decide +kernel) rfl
theorem q93 : Cond.initialized RJ5 ∈ lw_all := lw_q 93 (by decide +kernel) rfl
theorem q94 : Cond.initialized RJ4 ∈ lw_all := lw_q 94 (by decide +kernel) rfl
theorem q95 : Cond.initialized RJ0 ∈ lw_all := lw_q 95 (by decide +kernel) rfl
theorem q97 : Cond.initialized RX8 ∈ lw_all := lw_q 97 (by decide +kernel) rfl
theorem q102 : Cond.initialized "java/lang/Math" ∈ lw_all := lw_q 102 (by decide +kernel) rfl
theorem q103 : Cond.initialized RX4 ∈ lw_all := lw_q 103 (by decide +kernel) rfl
theorem q104 : Cond.initialized RJ1 ∈ lw_all := lw_q 104 (by decide +kernel) rfl
theorem q105 : Cond.initialized RJ3 ∈ lw_all := lw_q 105 (by decide +kernel) rfl
theorem q109 : Cond.initialized "java/lang/System" ∈ lw_all := lw_q 109 (by decide +kernel) rfl
theorem q111 : Cond.initialized RJ6 ∈ lw_all := lw_q 111 (by decide +kernel) rfl
theorem q112 : Cond.initialized RX2 ∈ lw_all := lw_q 112 (by decide +kernel) rfl
theorem q133 : Cond.fieldLink RX1 26 "SlantGauges$Leg" "density" "I" ∈ lw_all := lw_q 133 (by decide +kernel) rfl
theorem q134 : Cond.fieldLink RX7 134 "SlantGauges$Leg" "density" "I" ∈ lw_all := lw_q 134 (by decide +kernel) rfl
theorem q135 : Cond.fieldLink RX3 110 "SlantGauges$Leg" "density" "I" ∈ lw_all := lw_q 135 (by decide +kernel) rfl
theorem q136 : Cond.fieldLink RX1 30 "SlantGauges$Leg" "area" "I" ∈ lw_all := lw_q 136 (by decide +kernel) rfl
theorem q137 : Cond.fieldLink RX7 139 "SlantGauges$Leg" "area" "I" ∈ lw_all := lw_q 137 (by decide +kernel) rfl
theorem q138 : Cond.fieldLink RX3 136 "SlantGauges$Leg" "area" "I" ∈ lw_all := lw_q 138 (by decide +kernel) rfl
theorem q139 : Cond.fieldLink RX1 33 "SlantGauges$Leg" "curve" "I" ∈ lw_all := lw_q 139 (by decide +kernel) rfl
theorem q140 : Cond.fieldLink RX7 142 "SlantGauges$Leg" "curve" "I" ∈ lw_all := lw_q 140 (by decide +kernel) rfl
theorem q141 : Cond.fieldLink RX3 119 "SlantGauges$Leg" "curve" "I" ∈ lw_all := lw_q 141 (by decide +kernel) rfl
theorem q142 : Cond.fieldLink RX1 13 "SlantGauges$Leg" "stock" "J" ∈ lw_all := lw_q 142 (by decide +kernel) rfl
theorem q143 : Cond.fieldLink RX7 155 "SlantGauges$Leg" "stock" "J" ∈ lw_all := lw_q 143 (by decide +kernel) rfl
theorem q144 : Cond.fieldLink RX3 139 "SlantGauges$Leg" "stock" "J" ∈ lw_all := lw_q 144 (by decide +kernel) rfl
theorem q145 : Cond.fieldLink RX1 17 "SlantGauges$Leg" "lost" "J" ∈ lw_all := lw_q 145 (by decide +kernel) rfl
theorem q146 : Cond.fieldLink RX7 158 "SlantGauges$Leg" "lost" "J" ∈ lw_all := lw_q 146 (by decide +kernel) rfl
theorem q147 : Cond.fieldLink RX3 167 "SlantGauges$Leg" "lost" "J" ∈ lw_all := lw_q 147 (by decide +kernel) rfl
theorem q148 : Cond.fieldLink RX1 20 "SlantGauges$Leg" "refilled" "J" ∈ lw_all := lw_q 148 (by decide +kernel) rfl
theorem q149 : Cond.fieldLink RX7 161 "SlantGauges$Leg" "refilled" "J" ∈ lw_all := lw_q 149 (by decide +kernel) rfl
theorem q150 : Cond.fieldLink RX1 23 "SlantGauges$Leg" "level" "J" ∈ lw_all := lw_q 150 (by decide +kernel) rfl
theorem q151 : Cond.fieldLink RX7 145 "SlantGauges$Leg" "level" "J" ∈ lw_all := lw_q 151 (by decide +kernel) rfl
theorem q152 : Cond.fieldLink RX3 106 "SlantGauges$Leg" "level" "J" ∈ lw_all := lw_q 152 (by decide +kernel) rfl
theorem q176 : Cond.fieldLink RX6 9 "SlantGauges$Tube" "leg" "I" ∈ lw_all := lw_q 176 (by decide +kernel) rfl
theorem q177 : Cond.fieldLink RX3 68 "SlantGauges$Tube" "leg" "I" ∈ lw_all := lw_q 177 (by decide +kernel) rfl
theorem q178 : Cond.fieldLink RX7 254 "SlantGauges$Tube" "leg" "I" ∈ lw_all := lw_q 178 (by decide +kernel) rfl
theorem q179 : Cond.fieldLink RX6 15 "SlantGauges$Tube" "point" "I" ∈ lw_all := lw_q 179 (by decide +kernel) rfl
theorem q180 : Cond.fieldLink RX3 71 "SlantGauges$Tube" "point" "I" ∈ lw_all := lw_q 180 (by decide +kernel) rfl
theorem q181 : Cond.fieldLink RX7 208 "SlantGauges$Tube" "point" "I" ∈ lw_all := lw_q 181 (by decide +kernel) rfl
theorem q182 : Cond.fieldLink RX6 24 "SlantGauges$Tube" "bore" "I" ∈ lw_all := lw_q 182 (by decide +kernel) rfl
theorem q183 : Cond.fieldLink RX3 74 "SlantGauges$Tube" "bore" "I" ∈ lw_all := lw_q 183 (by decide +kernel) rfl
theorem q184 : Cond.fieldLink RX6 27 "SlantGauges$Tube" "slant" "I" ∈ lw_all := lw_q 184 (by decide +kernel) rfl
theorem q185 : Cond.fieldLink RX3 77 "SlantGauges$Tube" "slant" "I" ∈ lw_all := lw_q 185 (by decide +kernel) rfl
theorem q186 : Cond.fieldLink RX7 226 "SlantGauges$Tube" "slant" "I" ∈ lw_all := lw_q 186 (by decide +kernel) rfl
theorem q187 : Cond.fieldLink RX6 30 "SlantGauges$Tube" "length" "I" ∈ lw_all := lw_q 187 (by decide +kernel) rfl
theorem q188 : Cond.fieldLink RX3 80 "SlantGauges$Tube" "length" "I" ∈ lw_all := lw_q 188 (by decide +kernel) rfl
theorem q189 : Cond.fieldLink RX6 18 "SlantGauges$Tube" "mark" "I" ∈ lw_all := lw_q 189 (by decide +kernel) rfl
theorem q190 : Cond.fieldLink RX4 110 "SlantGauges$Tube" "mark" "I" ∈ lw_all := lw_q 190 (by decide +kernel) rfl
theorem q191 : Cond.fieldLink RX3 83 "SlantGauges$Tube" "mark" "I" ∈ lw_all := lw_q 191 (by decide +kernel) rfl
theorem q192 : Cond.fieldLink RX7 233 "SlantGauges$Tube" "mark" "I" ∈ lw_all := lw_q 192 (by decide +kernel) rfl
theorem q193 : Cond.fieldLink RX6 21 "SlantGauges$Tube" "state" "I" ∈ lw_all := lw_q 193 (by decide +kernel) rfl
theorem q194 : Cond.fieldLink RX7 179 "SlantGauges$Tube" "state" "I" ∈ lw_all := lw_q 194 (by decide +kernel) rfl
theorem q195 : Cond.fieldLink RX3 65 "SlantGauges$Tube" "state" "I" ∈ lw_all := lw_q 195 (by decide +kernel) rfl
theorem q196 : Cond.fieldLink RX6 41 "SlantGauges$Tube" "pull" "I" ∈ lw_all := lw_q 196 (by decide +kernel) rfl
theorem q197 : Cond.fieldLink RX3 93 "SlantGauges$Tube" "pull" "I" ∈ lw_all := lw_q 197 (by decide +kernel) rfl
theorem q198 : Cond.fieldLink RX6 44 "SlantGauges$Tube" "meniscus" "I" ∈ lw_all := lw_q 198 (by decide +kernel) rfl
theorem q199 : Cond.fieldLink RX3 96 "SlantGauges$Tube" "meniscus" "I" ∈ lw_all := lw_q 199 (by decide +kernel) rfl
theorem q200 : Cond.fieldLink RX6 47 "SlantGauges$Tube" "column" "I" ∈ lw_all := lw_q 200 (by decide +kernel) rfl
theorem q201 : Cond.fieldLink RX3 86 "SlantGauges$Tube" "column" "I" ∈ lw_all := lw_q 201 (by decide +kernel) rfl
theorem q202 : Cond.fieldLink RX7 199 "SlantGauges$Tube" "column" "I" ∈ lw_all := lw_q 202 (by decide +kernel) rfl
theorem q224 : Cond.fieldLink RX3 36 "SlantGauges$Row" "points" "I" ∈ lw_all := lw_q 224 (by decide +kernel) rfl
theorem q225 : Cond.fieldLink RX4 65 "SlantGauges$Row" "points" "I" ∈ lw_all := lw_q 225 (by decide +kernel) rfl
theorem q226 : Cond.fieldLink RX7 102 "SlantGauges$Row" "points" "I" ∈ lw_all := lw_q 226 (by decide +kernel) rfl
theorem q227 : Cond.fieldLink RX3 40 "SlantGauges$Row" "reference" "I" ∈ lw_all := lw_q 227 (by decide +kernel) rfl
theorem q228 : Cond.fieldLink RX7 105 "SlantGauges$Row" "reference" "I" ∈ lw_all := lw_q 228 (by decide +kernel) rfl
theorem q229 : Cond.fieldLink RX3 43 "SlantGauges$Row" "tubeCount" "I" ∈ lw_all := lw_q 229 (by decide +kernel) rfl
theorem q230 : Cond.fieldLink RX4 89 "SlantGauges$Row" "tubeCount" "I" ∈ lw_all := lw_q 230 (by decide +kernel) rfl
theorem q231 : Cond.fieldLink RX7 108 "SlantGauges$Row" "tubeCount" "I" ∈ lw_all := lw_q 231 (by decide +kernel) rfl
theorem q232 : Cond.fieldLink RX2 65 "SlantGauges$Row" "tubeCount" "I" ∈ lw_all := lw_q 232 (by decide +kernel) rfl
theorem q233 : Cond.fieldLink RX3 9 "SlantGauges$Row" "pressures" "[I" ∈ lw_all := lw_q 233 (by decide +kernel) rfl
theorem q234 : Cond.fieldLink RX3 18 "SlantGauges$Row" "left" "LSlantGauges$Leg;" ∈ lw_all := lw_q 234 (by decide +kernel) rfl
theorem q235 : Cond.fieldLink RX3 22 "SlantGauges$Row" "right" "LSlantGauges$Leg;" ∈ lw_all := lw_q 235 (by decide +kernel) rfl
theorem q236 : Cond.fieldLink RX3 27 "SlantGauges$Row" "tubes" "[LSlantGauges$Tube;" ∈ lw_all := lw_q 236 (by decide +kernel) rfl
theorem q237 : Cond.fieldLink RX3 32 "SlantGauges$Row" "spare" "LSlantGauges$Tube;" ∈ lw_all := lw_q 237 (by decide +kernel) rfl
theorem q264 : Cond.fieldLink RX0 11 "SlantGauges$History" "rows" "[LSlantGauges$Row;" ∈ lw_all := lw_q 264 (by decide +kernel) rfl
theorem q265 : Cond.fieldLink RX0 18 "SlantGauges$History" "oldest" "I" ∈ lw_all := lw_q 265 (by decide +kernel) rfl
theorem q266 : Cond.fieldLink RX0 22 "SlantGauges$History" "count" "I" ∈ lw_all := lw_q 266 (by decide +kernel) rfl
theorem q267 : Cond.fieldLink RX7 277 "SlantGauges$History" "count" "I" ∈ lw_all := lw_q 267 (by decide +kernel) rfl
theorem q281 : Cond.fieldLink RX5 9 "SlantGauges$Tokens" "bytes" "[B" ∈ lw_all := lw_q 281 (by decide +kernel) rfl
theorem q282 : Cond.fieldLink RX5 19 "SlantGauges$Tokens" "filled" "I" ∈ lw_all := lw_q 282 (by decide +kernel) rfl
theorem q283 : Cond.fieldLink RX7 56 "SlantGauges$Tokens" "filled" "I" ∈ lw_all := lw_q 283 (by decide +kernel) rfl
theorem q284 : Cond.fieldLink RX5 28 "SlantGauges$Tokens" "end" "I" ∈ lw_all := lw_q 284 (by decide +kernel) rfl
theorem q285 : Cond.fieldLink RX5 31 "SlantGauges$Tokens" "next" "I" ∈ lw_all := lw_q 285 (by decide +kernel) rfl
theorem q286 : Cond.fieldLink RX5 44 "SlantGauges$Tokens" "start" "I" ∈ lw_all := lw_q 286 (by decide +kernel) rfl
theorem q287 : Cond.fieldLink RX5 50 "SlantGauges$Tokens" "kind" "I" ∈ lw_all := lw_q 287 (by decide +kernel) rfl
theorem q288 : Cond.fieldLink RX2 93 "SlantGauges$Tokens" "kind" "I" ∈ lw_all := lw_q 288 (by decide +kernel) rfl
theorem q289 : Cond.fieldLink RX5 47 "SlantGauges$Tokens" "number" "I" ∈ lw_all := lw_q 289 (by decide +kernel) rfl
theorem q290 : Cond.fieldLink RX2 90 "SlantGauges$Tokens" "number" "I" ∈ lw_all := lw_q 290 (by decide +kernel) rfl
theorem q292 : Cond.fieldLink RX5 34 "SlantGauges$Tokens" "errorCode" "I" ∈ lw_all := lw_q 292 (by decide +kernel) rfl
theorem q293 : Cond.fieldLink RX5 15 "SlantGauges$Tokens" "errorAt" "I" ∈ lw_all := lw_q 293 (by decide +kernel) rfl
theorem q294 : Cond.fieldLink RX7 99 "SlantGauges$Tokens" "errorAt" "I" ∈ lw_all := lw_q 294 (by decide +kernel) rfl
theorem q324 : Cond.fieldLink RJ5 18 "java/lang/String" "COMPACT_STRINGS" "Z" ∈ lw_all := lw_q 324 (by decide +kernel) rfl
theorem q333 : Cond.fieldLink RJ5 15 "java/lang/AbstractStringBuilder" "value" "[B" ∈ lw_all := lw_q 333 (by decide +kernel) rfl
theorem q334 : Cond.fieldLink RJ5 22 "java/lang/AbstractStringBuilder" "coder" "B" ∈ lw_all := lw_q 334 (by decide +kernel) rfl
theorem q335 : Cond.fieldLink RJ5 73 "java/lang/AbstractStringBuilder" "maybeLatin1" "Z" ∈ lw_all := lw_q 335 (by decide +kernel) rfl
theorem q337 : Cond.fieldLink RJ5 79 "java/lang/AbstractStringBuilder" "count" "I" ∈ lw_all := lw_q 337 (by decide +kernel) rfl
theorem q346 : Cond.superclass RJ4 RJ5 ∈ lw_all := lw_q 346 (by decide +kernel) rfl
theorem q349 : Cond.instanceMethod yX3_clear ∈ lw_all := lw_q 349 (by decide +kernel) rfl
theorem q350 : Cond.selects RX3 yX3_clear yX3_clear ∈ lw_all := lw_q 350 (by decide +kernel) rfl
theorem q351 : Cond.code yX3_clear cX3_clear 4 none ∈ lw_all := lw_q 351 (by decide +kernel) rfl
theorem q352 : Cond.constant RX3 46 (50000) ∈ lw_all := lw_q 352 (by decide +kernel) rfl
theorem q353 : Cond.methodLink RX3 47 yX1_clear ∈ lw_all := lw_q 353 (by decide +kernel) rfl
theorem q354 : Cond.instanceMethod yX1_clear ∈ lw_all := lw_q 354 (by decide +kernel) rfl
theorem q355 : Cond.selects RX1 yX1_clear yX1_clear ∈ lw_all := lw_q 355 (by decide +kernel) rfl
theorem q356 : Cond.code yX1_clear cX1_clear 1 none ∈ lw_all := lw_q 356 (by decide +kernel) rfl
theorem q357 : Cond.methodLink RX1 7 yX1_liquid ∈ lw_all := lw_q 357 (by decide +kernel) rfl
theorem q358 : Cond.instanceMethod yX1_liquid ∈ lw_all := lw_q 358 (by decide +kernel) rfl
theorem q359 : Cond.selects RX1 yX1_liquid yX1_liquid ∈ lw_all := lw_q 359 (by decide +kernel) rfl
theorem q360 : Cond.code yX1_liquid cX1_liquid 4 none ∈ lw_all := lw_q 360 (by decide +kernel) rfl
theorem q361 : Cond.fieldLink RX7 10 "SlantGauges" "current" "LSlantGauges$Row;" ∈ lw_all := lw_q 361 (by decide +kernel) rfl
theorem q362 : Cond.fieldLink RX7 16 "SlantGauges" "trial" "LSlantGauges$Row;" ∈ lw_all := lw_q 362 (by decide +kernel) rfl
theorem q363 : Cond.fieldLink RX7 19 "SlantGauges" "snapshot" "LSlantGauges$Row;" ∈ lw_all := lw_q 363 (by decide +kernel) rfl
theorem q364 : Cond.fieldLink RX7 25 "SlantGauges" "history" "LSlantGauges$History;" ∈ lw_all := lw_q 364 (by decide +kernel) rfl
theorem q365 : Cond.fieldLink RX7 32 "SlantGauges" "tokens" "LSlantGauges$Tokens;" ∈ lw_all := lw_q 365 (by decide +kernel) rfl
theorem q366 : Cond.fieldLink RX7 39 "SlantGauges" "formatted" "Ljava/lang/StringBuilder;" ∈ lw_all := lw_q 366 (by decide +kernel) rfl
theorem q367 : Cond.fieldLink RX7 91 "SlantGauges" "snapshotTaken" "Z" ∈ lw_all := lw_q 367 (by decide +kernel) rfl
theorem q387 : Cond.methodLink RX7 48 yX5_hasRoomFor ∈ lw_all := lw_q 387 (by decide +kernel) rfl
theorem q388 : Cond.instanceMethod yX5_hasRoomFor ∈ lw_all := lw_q 388 (by decide +kernel) rfl
theorem q389 : Cond.selects RX5 yX5_hasRoomFor yX5_hasRoomFor ∈ lw_all := lw_q 389 (by decide +kernel) rfl
theorem q390 : Cond.code yX5_hasRoomFor cX5_hasRoomFor 2 (some .boolean) ∈ lw_all := lw_q 390 (by decide +kernel) rfl
theorem q391 : Cond.methodLink RX7 52 yX5_append ∈ lw_all := lw_q 391 (by decide +kernel) rfl
theorem q392 : Cond.instanceMethod yX5_append ∈ lw_all := lw_q 392 (by decide +kernel) rfl
theorem q393 : Cond.selects RX5 yX5_append yX5_append ∈ lw_all := lw_q 393 (by decide +kernel) rfl
theorem q394 : Cond.code yX5_append cX5_append 3 none ∈ lw_all := lw_q 394 (by decide +kernel) rfl
theorem q403 : Cond.methodLink RX7 175 yX3_tubeAt ∈ lw_all := lw_q 403 (by decide +kernel) rfl
theorem q404 : Cond.instanceMethod yX3_tubeAt ∈ lw_all := lw_q 404 (by decide +kernel) rfl
theorem q405 : Cond.selects RX3 yX3_tubeAt yX3_tubeAt ∈ lw_all := lw_q 405 (by decide +kernel) rfl
theorem q406 : Cond.code yX3_tubeAt cX3_tubeAt 2 (some (.object "SlantGauges$Tube")) ∈ lw_all := lw_q 406 (by decide +kernel) rfl
theorem q407 : Cond.methodLink RX7 192 yX3_differenceOf ∈ lw_all := lw_q 407 (by decide +kernel) rfl
theorem q408 : Cond.instanceMethod yX3_differenceOf ∈ lw_all := lw_q 408 (by decide +kernel) rfl
theorem q409 : Cond.selects RX3 yX3_differenceOf yX3_differenceOf ∈ lw_all := lw_q 409 (by decide +kernel) rfl
theorem q410 : Cond.code yX3_differenceOf cX3_differenceOf 5 (some .int) ∈ lw_all := lw_q 410 (by decide +kernel) rfl
theorem q411 : Cond.methodLink RX3 115 yX3_toldBy ∈ lw_all := lw_q 411 (by decide +kernel) rfl
theorem q412 : Cond.instanceMethod yX3_toldBy ∈ lw_all := lw_q 412 (by decide +kernel) rfl
theorem q413 : Cond.selects RX3 yX3_toldBy yX3_toldBy ∈ lw_all := lw_q 413 (by decide +kernel) rfl
theorem q414 : Cond.code yX3_toldBy cX3_toldBy 5 (some .int) ∈ lw_all := lw_q 414 (by decide +kernel) rfl
theorem q415 : Cond.methodLink RX3 99 yX3_legAt ∈ lw_all := lw_q 415 (by decide +kernel) rfl
theorem q416 : Cond.instanceMethod yX3_legAt ∈ lw_all := lw_q 416 (by decide +kernel) rfl
theorem q417 : Cond.selects RX3 yX3_legAt yX3_legAt ∈ lw_all := lw_q 417 (by decide +kernel) rfl
theorem q418 : Cond.code yX3_legAt cX3_legAt 2 (some (.object "SlantGauges$Leg")) ∈ lw_all := lw_q 418 (by decide +kernel) rfl
theorem q419 : Cond.methodLink RX3 103 yX6_columnHeight ∈ lw_all := lw_q 419 (by decide +kernel) rfl
theorem q420 : Cond.instanceMethod yX6_columnHeight ∈ lw_all := lw_q 420 (by decide +kernel) rfl
theorem q421 : Cond.selects RX6 yX6_columnHeight yX6_columnHeight ∈ lw_all := lw_q 421 (by decide +kernel) rfl
theorem q422 : Cond.code yX6_columnHeight cX6_columnHeight 1 (some .int) ∈ lw_all := lw_q 422 (by decide +kernel) rfl
theorem q423 : Cond.constantLong RX3 113 (1000) ∈ lw_all := lw_q 423 (by decide +kernel) rfl
theorem q432 : Cond.methodLink RX7 189 yX3_wrongBy ∈ lw_all := lw_q 432 (by decide +kernel) rfl
theorem q433 : Cond.instanceMethod yX3_wrongBy ∈ lw_all := lw_q 433 (by decide +kernel) rfl
theorem q434 : Cond.selects RX3 yX3_wrongBy yX3_wrongBy ∈ lw_all := lw_q 434 (by decide +kernel) rfl
theorem q435 : Cond.code yX3_wrongBy cX3_wrongBy 2 (some .int) ∈ lw_all := lw_q 435 (by decide +kernel) rfl
theorem q436 : Cond.methodLink RX3 50 yX3_pressureAt ∈ lw_all := lw_q 436 (by decide +kernel) rfl
theorem q437 : Cond.instanceMethod yX3_pressureAt ∈ lw_all := lw_q 437 (by decide +kernel) rfl
theorem q438 : Cond.selects RX3 yX3_pressureAt yX3_pressureAt ∈ lw_all := lw_q 438 (by decide +kernel) rfl
theorem q439 : Cond.code yX3_pressureAt cX3_pressureAt 2 (some .int) ∈ lw_all := lw_q 439 (by decide +kernel) rfl
theorem q440 : Cond.methodLink RX7 202 Lib.Math.abs.name ∈ lw_all := lw_q 440 (by decide +kernel) rfl
theorem q441 : Cond.static Lib.Math.abs.name ∈ lw_all := lw_q 441 (by decide +kernel) rfl
theorem q442 : Cond.code Lib.Math.abs.name Lib.Math.abs.code 1 (some .int) ∈ lw_all := lw_q 442 (by decide +kernel) rfl
theorem q447 : Cond.methodLink RX7 220 yX6_shownReading ∈ lw_all := lw_q 447 (by decide +kernel) rfl
theorem q448 : Cond.instanceMethod yX6_shownReading ∈ lw_all := lw_q 448 (by decide +kernel) rfl
theorem q449 : Cond.selects RX6 yX6_shownReading yX6_shownReading ∈ lw_all := lw_q 449 (by decide +kernel) rfl
theorem q450 : Cond.code yX6_shownReading cX6_shownReading 1 (some .int) ∈ lw_all := lw_q 450 (by decide +kernel) rfl
theorem q455 : Cond.methodLink RX7 95 yX3_countInState ∈ lw_all := lw_q 455 (by decide +kernel) rfl
theorem q456 : Cond.instanceMethod yX3_countInState ∈ lw_all := lw_q 456 (by decide +kernel) rfl
theorem q457 : Cond.selects RX3 yX3_countInState yX3_countInState ∈ lw_all := lw_q 457 (by decide +kernel) rfl
theorem q458 : Cond.code yX3_countInState cX3_countInState 4 (some .int) ∈ lw_all := lw_q 458 (by decide +kernel) rfl
theorem q459 : Cond.methodLink RX3 58 yX3_tubeAt ∈ lw_all := lw_q 459 (by decide +kernel) rfl
theorem q464 : Cond.methodLink RX7 270 yJ4_length_8abf5 ∈ lw_all := lw_q 464 (by decide +kernel) rfl
theorem q465 : Cond.instanceMethod yJ4_length_8abf5 ∈ lw_all := lw_q 465 (by decide +kernel) rfl
theorem q466 : Cond.selects RJ4 yJ4_length_8abf5 yJ4_length_8abf5 ∈ lw_all := lw_q 466 (by decide +kernel) rfl
theorem q467 : Cond.code yJ4_length_8abf5 cJ4_length_8abf5 1 (some .int) ∈ lw_all := lw_q 467 (by decide +kernel) rfl
theorem q468 : Cond.methodLink RJ4 343 yJ5_length_8abf5 ∈ lw_all := lw_q 468 (by decide +kernel) rfl
theorem q469 : Cond.instanceMethod yJ5_length_8abf5 ∈ lw_all := lw_q 469 (by decide +kernel) rfl
theorem q470 : Cond.code yJ5_length_8abf5 cJ5_length_8abf5 1 (some .int) ∈ lw_all := lw_q 470 (by decide +kernel) rfl
theorem q471 : Cond.methodLink RX7 273 yJ4_charAt_5068e ∈ lw_all := lw_q 471 (by decide +kernel) rfl
theorem q472 : Cond.instanceMethod yJ4_charAt_5068e ∈ lw_all := lw_q 472 (by decide +kernel) rfl
theorem q473 : Cond.selects RJ4 yJ4_charAt_5068e yJ4_charAt_5068e ∈ lw_all := lw_q 473 (by decide +kernel) rfl
theorem q474 : Cond.code yJ4_charAt_5068e cJ4_charAt_5068e 2 (some .char) ∈ lw_all := lw_q 474 (by decide +kernel) rfl
theorem q475 : Cond.methodLink RJ4 329 yJ5_charAt_5068e ∈ lw_all := lw_q 475 (by decide +kernel) rfl
theorem q476 : Cond.instanceMethod yJ5_charAt_5068e ∈ lw_all := lw_q 476 (by decide +kernel) rfl
theorem q477 : Cond.code yJ5_charAt_5068e cJ5_charAt_5068e 5 (some .char) ∈ lw_all := lw_q 477 (by decide +kernel) rfl
theorem q478 : Cond.methodLink RJ5 138 Lib.Math.min.name ∈ lw_all := lw_q 478 (by decide +kernel) rfl
theorem q479 : Cond.static Lib.Math.min.name ∈ lw_all := lw_q 479 (by decide +kernel) rfl
theorem q480 : Cond.code Lib.Math.min.name Lib.Math.min.code 2 (some .int) ∈ lw_all := lw_q 480 (by decide +kernel) rfl
theorem q481 : Cond.methodLink RJ5 144 yJ0_checkIndex_df160 ∈ lw_all := lw_q 481 (by decide +kernel) rfl
theorem q482 : Cond.static yJ0_checkIndex_df160 ∈ lw_all := lw_q 482 (by decide +kernel) rfl
theorem q483 : Cond.code yJ0_checkIndex_df160 cJ0_checkIndex_df160 2 none ∈ lw_all := lw_q 483 (by decide +kernel) rfl
theorem q484 : Cond.fieldLink RJ0 1053 "jdk/internal/util/Preconditions" "SIOOBE_FORMATTER" "Ljava/util/function/BiFunction;" ∈ lw_all := lw_q 484 (by decide +kernel) rfl
theorem q486 : Cond.methodLink RJ0 1059 yJ3_checkIndex_8e157 ∈ lw_all := lw_q 486 (by decide +kernel) rfl
theorem q487 : Cond.static yJ3_checkIndex_8e157 ∈ lw_all := lw_q 487 (by decide +kernel) rfl
theorem q488 : Cond.code yJ3_checkIndex_8e157 cJ3_checkIndex_8e157 3 (some .int) ∈ lw_all := lw_q 488 (by decide +kernel) rfl
theorem q509 : Cond.methodLink RX7 280 yX0_takeBack ∈ lw_all := lw_q 509 (by decide +kernel) rfl
theorem q510 : Cond.instanceMethod yX0_takeBack ∈ lw_all := lw_q 510 (by decide +kernel) rfl
theorem q511 : Cond.selects RX0 yX0_takeBack yX0_takeBack ∈ lw_all := lw_q 511 (by decide +kernel) rfl
theorem q512 : Cond.code yX0_takeBack cX0_takeBack 3 none ∈ lw_all := lw_q 512 (by decide +kernel) rfl
theorem q513 : Cond.methodLink RX0 25 yJ9_floorMod_7cf53 ∈ lw_all := lw_q 513 (by decide +kernel) rfl
theorem q514 : Cond.static yJ9_floorMod_7cf53 ∈ lw_all := lw_q 514 (by decide +kernel) rfl
theorem q515 : Cond.code yJ9_floorMod_7cf53 cJ9_floorMod_7cf53 3 (some .int) ∈ lw_all := lw_q 515 (by decide +kernel) rfl
theorem q516 : Cond.methodLink RX0 31 yX3_copyFrom ∈ lw_all := lw_q 516 (by decide +kernel) rfl
theorem q517 : Cond.instanceMethod yX3_copyFrom ∈ lw_all := lw_q 517 (by decide +kernel) rfl
theorem q518 : Cond.selects RX3 yX3_copyFrom yX3_copyFrom ∈ lw_all := lw_q 518 (by decide +kernel) rfl
theorem q519 : Cond.code yX3_copyFrom cX3_copyFrom 3 none ∈ lw_all := lw_q 519 (by decide +kernel) rfl
theorem q520 : Cond.methodLink RX3 54 yX1_copyFrom ∈ lw_all := lw_q 520 (by decide +kernel) rfl
theorem q521 : Cond.instanceMethod yX1_copyFrom ∈ lw_all := lw_q 521 (by decide +kernel) rfl
theorem q522 : Cond.selects RX1 yX1_copyFrom yX1_copyFrom ∈ lw_all := lw_q 522 (by decide +kernel) rfl
theorem q523 : Cond.code yX1_copyFrom cX1_copyFrom 2 none ∈ lw_all := lw_q 523 (by decide +kernel) rfl
theorem q524 : Cond.methodLink RX3 62 yX6_copyFrom ∈ lw_all := lw_q 524 (by decide +kernel) rfl
theorem q525 : Cond.instanceMethod yX6_copyFrom ∈ lw_all := lw_q 525 (by decide +kernel) rfl
theorem q526 : Cond.selects RX6 yX6_copyFrom yX6_copyFrom ∈ lw_all := lw_q 526 (by decide +kernel) rfl
theorem q527 : Cond.code yX6_copyFrom cX6_copyFrom 2 none ∈ lw_all := lw_q 527 (by decide +kernel) rfl
theorem q528 : Cond.methodLink RX6 33 yX6_stand ∈ lw_all := lw_q 528 (by decide +kernel) rfl
theorem q529 : Cond.instanceMethod yX6_stand ∈ lw_all := lw_q 529 (by decide +kernel) rfl
theorem q530 : Cond.selects RX6 yX6_stand yX6_stand ∈ lw_all := lw_q 530 (by decide +kernel) rfl
theorem q531 : Cond.code yX6_stand cX6_stand 3 none ∈ lw_all := lw_q 531 (by decide +kernel) rfl
theorem q532 : Cond.methodLink RX6 37 yX6_shape ∈ lw_all := lw_q 532 (by decide +kernel) rfl
theorem q533 : Cond.instanceMethod yX6_shape ∈ lw_all := lw_q 533 (by decide +kernel) rfl
theorem q534 : Cond.selects RX6 yX6_shape yX6_shape ∈ lw_all := lw_q 534 (by decide +kernel) rfl
theorem q535 : Cond.code yX6_shape cX6_shape 4 none ∈ lw_all := lw_q 535 (by decide +kernel) rfl
theorem q540 : Cond.methodLink RX7 81 yX3_copyFrom ∈ lw_all := lw_q 540 (by decide +kernel) rfl
theorem q545 : Cond.methodLink RX7 89 yX0_clear ∈ lw_all := lw_q 545 (by decide +kernel) rfl
theorem q546 : Cond.instanceMethod yX0_clear ∈ lw_all := lw_q 546 (by decide +kernel) rfl
theorem q547 : Cond.selects RX0 yX0_clear yX0_clear ∈ lw_all := lw_q 547 (by decide +kernel) rfl
theorem q548 : Cond.code yX0_clear cX0_clear 1 none ∈ lw_all := lw_q 548 (by decide +kernel) rfl
theorem q557 : Cond.methodLink RX7 60 yX7_requireWithin ∈ lw_all := lw_q 557 (by decide +kernel) rfl
theorem q558 : Cond.static yX7_requireWithin ∈ lw_all := lw_q 558 (by decide +kernel) rfl
theorem q559 : Cond.code yX7_requireWithin cX7_requireWithin 3 none ∈ lw_all := lw_q 559 (by decide +kernel) rfl
theorem q626 : Cond.methodLink RX7 64 yX5_begin ∈ lw_all := lw_q 626 (by decide +kernel) rfl
theorem q627 : Cond.instanceMethod yX5_begin ∈ lw_all := lw_q 627 (by decide +kernel) rfl
theorem q628 : Cond.selects RX5 yX5_begin yX5_begin ∈ lw_all := lw_q 628 (by decide +kernel) rfl
theorem q629 : Cond.code yX5_begin cX5_begin 2 none ∈ lw_all := lw_q 629 (by decide +kernel) rfl
theorem q630 : Cond.methodLink RX5 22 Lib.Math.min.name ∈ lw_all := lw_q 630 (by decide +kernel) rfl
theorem q631 : Cond.methodLink RX5 37 yX5_advance ∈ lw_all := lw_q 631 (by decide +kernel) rfl
theorem q632 : Cond.instanceMethod yX5_advance ∈ lw_all := lw_q 632 (by decide +kernel) rfl
theorem q633 : Cond.selects RX5 yX5_advance yX5_advance ∈ lw_all := lw_q 633 (by decide +kernel) rfl
theorem q634 : Cond.code yX5_advance cX5_advance 1 none ∈ lw_all := lw_q 634 (by decide +kernel) rfl
theorem q635 : Cond.methodLink RX5 40 yX5_byteAt ∈ lw_all := lw_q 635 (by decide +kernel) rfl
theorem q637 : Cond.instanceMethod yX5_byteAt ∈ lw_all := lw_q 637 (by decide +kernel) rfl
theorem q638 : Cond.code yX5_byteAt cX5_byteAt 2 (some .int) ∈ lw_all := lw_q 638 (by decide +kernel) rfl
theorem q639 : Cond.methodLink RX5 53 yX5_isLetter ∈ lw_all := lw_q 639 (by decide +kernel) rfl
theorem q640 : Cond.static yX5_isLetter ∈ lw_all := lw_q 640 (by decide +kernel) rfl
theorem q641 : Cond.code yX5_isLetter cX5_isLetter 1 (some .boolean) ∈ lw_all := lw_q 641 (by decide +kernel) rfl
theorem q642 : Cond.methodLink RX5 57 yX5_isDigit ∈ lw_all := lw_q 642 (by decide +kernel) rfl
theorem q643 : Cond.static yX5_isDigit ∈ lw_all := lw_q 643 (by decide +kernel) rfl
theorem q644 : Cond.code yX5_isDigit cX5_isDigit 1 (some .boolean) ∈ lw_all := lw_q 644 (by decide +kernel) rfl
theorem q645 : Cond.constant RX5 60 (9999999) ∈ lw_all := lw_q 645 (by decide +kernel) rfl
theorem q652 : Cond.fieldLink RX4 9 "SlantGauges$TextGrammar" "tokens" "LSlantGauges$Tokens;" ∈ lw_all := lw_q 652 (by decide +kernel) rfl
theorem q653 : Cond.fieldLink RX4 15 "SlantGauges$TextGrammar" "row" "LSlantGauges$Row;" ∈ lw_all := lw_q 653 (by decide +kernel) rfl
theorem q664 : Cond.methodLink RX4 21 yX5_takeWord ∈ lw_all := lw_q 664 (by decide +kernel) rfl
theorem q665 : Cond.instanceMethod yX5_takeWord ∈ lw_all := lw_q 665 (by decide +kernel) rfl
theorem q666 : Cond.selects RX5 yX5_takeWord yX5_takeWord ∈ lw_all := lw_q 666 (by decide +kernel) rfl
theorem q667 : Cond.code yX5_takeWord cX5_takeWord 2 none ∈ lw_all := lw_q 667 (by decide +kernel) rfl
theorem q668 : Cond.methodLink RX5 71 yX5_isWord ∈ lw_all := lw_q 668 (by decide +kernel) rfl
theorem q669 : Cond.instanceMethod yX5_isWord ∈ lw_all := lw_q 669 (by decide +kernel) rfl
theorem q670 : Cond.selects RX5 yX5_isWord yX5_isWord ∈ lw_all := lw_q 670 (by decide +kernel) rfl
theorem q671 : Cond.code yX5_isWord cX5_isWord 5 (some .boolean) ∈ lw_all := lw_q 671 (by decide +kernel) rfl
theorem q672 : Cond.methodLink RX5 61 yJ0_length_8abf5 ∈ lw_all := lw_q 672 (by decide +kernel) rfl
theorem q673 : Cond.instanceMethod yJ0_length_8abf5 ∈ lw_all := lw_q 673 (by decide +kernel) rfl
theorem q674 : Cond.selects RJ0 yJ0_length_8abf5 yJ0_length_8abf5 ∈ lw_all := lw_q 674 (by decide +kernel) rfl
theorem q675 : Cond.code yJ0_length_8abf5 cJ0_length_8abf5 1 (some .int) ∈ lw_all := lw_q 675 (by decide +kernel) rfl
theorem q676 : Cond.methodLink RJ0 335 yJ0_coder_7d493 ∈ lw_all := lw_q 676 (by decide +kernel) rfl
theorem q677 : Cond.instanceMethod yJ0_coder_7d493 ∈ lw_all := lw_q 677 (by decide +kernel) rfl
theorem q678 : Cond.selects RJ0 yJ0_coder_7d493 yJ0_coder_7d493 ∈ lw_all := lw_q 678 (by decide +kernel) rfl
theorem q679 : Cond.code yJ0_coder_7d493 cJ0_coder_7d493 1 (some .byte) ∈ lw_all := lw_q 679 (by decide +kernel) rfl
theorem q680 : Cond.fieldLink RJ0 38 "java/lang/String" "COMPACT_STRINGS" "Z" ∈ lw_all := lw_q 680 (by decide +kernel) rfl
theorem q681 : Cond.methodLink RX5 67 yJ0_charAt_5068e ∈ lw_all := lw_q 681 (by decide +kernel) rfl
theorem q682 : Cond.instanceMethod yJ0_charAt_5068e ∈ lw_all := lw_q 682 (by decide +kernel) rfl
theorem q683 : Cond.selects RJ0 yJ0_charAt_5068e yJ0_charAt_5068e ∈ lw_all := lw_q 683 (by decide +kernel) rfl
theorem q684 : Cond.code yJ0_charAt_5068e cJ0_charAt_5068e 2 (some .char) ∈ lw_all := lw_q 684 (by decide +kernel) rfl
theorem q685 : Cond.methodLink RJ0 492 yJ0_isLatin1_aae02 ∈ lw_all := lw_q 685 (by decide +kernel) rfl
theorem q686 : Cond.instanceMethod yJ0_isLatin1_aae02 ∈ lw_all := lw_q 686 (by decide +kernel) rfl
theorem q687 : Cond.selects RJ0 yJ0_isLatin1_aae02 yJ0_isLatin1_aae02 ∈ lw_all := lw_q 687 (by decide +kernel) rfl
theorem q688 : Cond.code yJ0_isLatin1_aae02 cJ0_isLatin1_aae02 1 (some .boolean) ∈ lw_all := lw_q 688 (by decide +kernel) rfl
theorem q689 : Cond.methodLink RJ0 495 yJ1_charAt_3b067 ∈ lw_all := lw_q 689 (by decide +kernel) rfl
theorem q690 : Cond.static yJ1_charAt_3b067 ∈ lw_all := lw_q 690 (by decide +kernel) rfl
theorem q691 : Cond.code yJ1_charAt_3b067 cJ1_charAt_3b067 2 (some .char) ∈ lw_all := lw_q 691 (by decide +kernel) rfl
theorem q692 : Cond.methodLink RJ1 9 yJ0_checkIndex_df160 ∈ lw_all := lw_q 692 (by decide +kernel) rfl
theorem q701 : Cond.methodLink RX5 75 yX5_fail ∈ lw_all := lw_q 701 (by decide +kernel) rfl
theorem q702 : Cond.instanceMethod yX5_fail ∈ lw_all := lw_q 702 (by decide +kernel) rfl
theorem q703 : Cond.selects RX5 yX5_fail yX5_fail ∈ lw_all := lw_q 703 (by decide +kernel) rfl
theorem q704 : Cond.code yX5_fail cX5_fail 2 none ∈ lw_all := lw_q 704 (by decide +kernel) rfl
theorem q705 : Cond.methodLink RX4 27 yX5_takeNumber ∈ lw_all := lw_q 705 (by decide +kernel) rfl
theorem q706 : Cond.instanceMethod yX5_takeNumber ∈ lw_all := lw_q 706 (by decide +kernel) rfl
theorem q707 : Cond.selects RX5 yX5_takeNumber yX5_takeNumber ∈ lw_all := lw_q 707 (by decide +kernel) rfl
theorem q708 : Cond.code yX5_takeNumber cX5_takeNumber 4 (some .int) ∈ lw_all := lw_q 708 (by decide +kernel) rfl
theorem q709 : Cond.constant RX4 31 (99999) ∈ lw_all := lw_q 709 (by decide +kernel) rfl
theorem q710 : Cond.methodLink RX4 32 yX3_clear ∈ lw_all := lw_q 710 (by decide +kernel) rfl
theorem q711 : Cond.methodLink RX4 38 yX5_takeSign ∈ lw_all := lw_q 711 (by decide +kernel) rfl
theorem q712 : Cond.instanceMethod yX5_takeSign ∈ lw_all := lw_q 712 (by decide +kernel) rfl
theorem q713 : Cond.selects RX5 yX5_takeSign yX5_takeSign ∈ lw_all := lw_q 713 (by decide +kernel) rfl
theorem q714 : Cond.code yX5_takeSign cX5_takeSign 2 none ∈ lw_all := lw_q 714 (by decide +kernel) rfl
theorem q715 : Cond.methodLink RX5 79 yX5_isSign ∈ lw_all := lw_q 715 (by decide +kernel) rfl
theorem q716 : Cond.instanceMethod yX5_isSign ∈ lw_all := lw_q 716 (by decide +kernel) rfl
theorem q717 : Cond.selects RX5 yX5_isSign yX5_isSign ∈ lw_all := lw_q 717 (by decide +kernel) rfl
theorem q718 : Cond.code yX5_isSign cX5_isSign 2 (some .boolean) ∈ lw_all := lw_q 718 (by decide +kernel) rfl
theorem q719 : Cond.methodLink RX4 42 yX5_goesOn ∈ lw_all := lw_q 719 (by decide +kernel) rfl
theorem q720 : Cond.instanceMethod yX5_goesOn ∈ lw_all := lw_q 720 (by decide +kernel) rfl
theorem q721 : Cond.selects RX5 yX5_goesOn yX5_goesOn ∈ lw_all := lw_q 721 (by decide +kernel) rfl
theorem q722 : Cond.code yX5_goesOn cX5_goesOn 1 (some .boolean) ∈ lw_all := lw_q 722 (by decide +kernel) rfl
theorem q723 : Cond.methodLink RX4 46 yX4_readClause ∈ lw_all := lw_q 723 (by decide +kernel) rfl
theorem q725 : Cond.instanceMethod yX4_readClause ∈ lw_all := lw_q 725 (by decide +kernel) rfl
theorem q726 : Cond.code yX4_readClause cX4_readClause 2 none ∈ lw_all := lw_q 726 (by decide +kernel) rfl
theorem q728 : Cond.methodLink RX4 51 yX5_isWord ∈ lw_all := lw_q 728 (by decide +kernel) rfl
theorem q729 : Cond.methodLink RX4 55 yX4_readLeg ∈ lw_all := lw_q 729 (by decide +kernel) rfl
theorem q731 : Cond.instanceMethod yX4_readLeg ∈ lw_all := lw_q 731 (by decide +kernel) rfl
theorem q732 : Cond.code yX4_readLeg cX4_readLeg 4 none ∈ lw_all := lw_q 732 (by decide +kernel) rfl
theorem q733 : Cond.methodLink RX4 72 yX5_advance ∈ lw_all := lw_q 733 (by decide +kernel) rfl
theorem q734 : Cond.methodLink RX4 75 yX3_legAt ∈ lw_all := lw_q 734 (by decide +kernel) rfl
theorem q735 : Cond.methodLink RX4 79 yX5_takeSigned ∈ lw_all := lw_q 735 (by decide +kernel) rfl
theorem q736 : Cond.instanceMethod yX5_takeSigned ∈ lw_all := lw_q 736 (by decide +kernel) rfl
theorem q737 : Cond.selects RX5 yX5_takeSigned yX5_takeSigned ∈ lw_all := lw_q 737 (by decide +kernel) rfl
theorem q738 : Cond.code yX5_takeSigned cX5_takeSigned 3 (some .int) ∈ lw_all := lw_q 738 (by decide +kernel) rfl
theorem q739 : Cond.methodLink RX5 83 yX5_takeNumber ∈ lw_all := lw_q 739 (by decide +kernel) rfl
theorem q740 : Cond.methodLink RX4 83 yX1_liquid ∈ lw_all := lw_q 740 (by decide +kernel) rfl
theorem q742 : Cond.methodLink RX4 60 yX4_readTube ∈ lw_all := lw_q 742 (by decide +kernel) rfl
theorem q744 : Cond.instanceMethod yX4_readTube ∈ lw_all := lw_q 744 (by decide +kernel) rfl
theorem q745 : Cond.code yX4_readTube cX4_readTube 5 none ∈ lw_all := lw_q 745 (by decide +kernel) rfl
theorem q746 : Cond.methodLink RX4 92 yX5_fail ∈ lw_all := lw_q 746 (by decide +kernel) rfl
theorem q747 : Cond.methodLink RX4 96 yX3_append ∈ lw_all := lw_q 747 (by decide +kernel) rfl
theorem q748 : Cond.instanceMethod yX3_append ∈ lw_all := lw_q 748 (by decide +kernel) rfl
theorem q749 : Cond.selects RX3 yX3_append yX3_append ∈ lw_all := lw_q 749 (by decide +kernel) rfl
theorem q750 : Cond.code yX3_append cX3_append 1 (some (.object "SlantGauges$Tube")) ∈ lw_all := lw_q 750 (by decide +kernel) rfl
theorem q751 : Cond.methodLink RX4 100 yX6_stand ∈ lw_all := lw_q 751 (by decide +kernel) rfl
theorem q752 : Cond.methodLink RX4 105 yX6_shape ∈ lw_all := lw_q 752 (by decide +kernel) rfl
theorem q755 : Cond.methodLink RX4 69 yX3_press ∈ lw_all := lw_q 755 (by decide +kernel) rfl
theorem q756 : Cond.instanceMethod yX3_press ∈ lw_all := lw_q 756 (by decide +kernel) rfl
theorem q757 : Cond.selects RX3 yX3_press yX3_press ∈ lw_all := lw_q 757 (by decide +kernel) rfl
theorem q758 : Cond.code yX3_press cX3_press 3 none ∈ lw_all := lw_q 758 (by decide +kernel) rfl
theorem q763 : Cond.methodLink RX7 85 yX3_settle ∈ lw_all := lw_q 763 (by decide +kernel) rfl
theorem q764 : Cond.instanceMethod yX3_settle ∈ lw_all := lw_q 764 (by decide +kernel) rfl
theorem q765 : Cond.selects RX3 yX3_settle yX3_settle ∈ lw_all := lw_q 765 (by decide +kernel) rfl
theorem q766 : Cond.code yX3_settle cX3_settle 4 (some .int) ∈ lw_all := lw_q 766 (by decide +kernel) rfl
theorem q767 : Cond.methodLink RX3 122 yX3_settleLeg ∈ lw_all := lw_q 767 (by decide +kernel) rfl
theorem q769 : Cond.instanceMethod yX3_settleLeg ∈ lw_all := lw_q 769 (by decide +kernel) rfl
theorem q770 : Cond.code yX3_settleLeg cX3_settleLeg 6 (some .int) ∈ lw_all := lw_q 770 (by decide +kernel) rfl
theorem q771 : Cond.methodLink RX3 129 yX3_greatestLevel ∈ lw_all := lw_q 771 (by decide +kernel) rfl
theorem q773 : Cond.instanceMethod yX3_greatestLevel ∈ lw_all := lw_q 773 (by decide +kernel) rfl
theorem q774 : Cond.code yX3_greatestLevel cX3_greatestLevel 10 (some .long) ∈ lw_all := lw_q 774 (by decide +kernel) rfl
theorem q775 : Cond.methodLink RX3 142 yX3_fullVolumes ∈ lw_all := lw_q 775 (by decide +kernel) rfl
theorem q777 : Cond.instanceMethod yX3_fullVolumes ∈ lw_all := lw_q 777 (by decide +kernel) rfl
theorem q778 : Cond.code yX3_fullVolumes cX3_fullVolumes 6 (some .long) ∈ lw_all := lw_q 778 (by decide +kernel) rfl
theorem q779 : Cond.methodLink RX3 157 yX6_fullVolume ∈ lw_all := lw_q 779 (by decide +kernel) rfl
theorem q780 : Cond.instanceMethod yX6_fullVolume ∈ lw_all := lw_q 780 (by decide +kernel) rfl
theorem q781 : Cond.selects RX6 yX6_fullVolume yX6_fullVolume ∈ lw_all := lw_q 781 (by decide +kernel) rfl
theorem q782 : Cond.code yX6_fullVolume cX6_fullVolume 1 (some .long) ∈ lw_all := lw_q 782 (by decide +kernel) rfl
theorem q783 : Cond.methodLink RX6 50 yX6_fullColumn ∈ lw_all := lw_q 783 (by decide +kernel) rfl
theorem q784 : Cond.instanceMethod yX6_fullColumn ∈ lw_all := lw_q 784 (by decide +kernel) rfl
theorem q785 : Cond.selects RX6 yX6_fullColumn yX6_fullColumn ∈ lw_all := lw_q 785 (by decide +kernel) rfl
theorem q786 : Cond.code yX6_fullColumn cX6_fullColumn 1 (some .int) ∈ lw_all := lw_q 786 (by decide +kernel) rfl
theorem q787 : Cond.methodLink RX3 145 yJ9_floorDiv_f86c9 ∈ lw_all := lw_q 787 (by decide +kernel) rfl
theorem q788 : Cond.static yJ9_floorDiv_f86c9 ∈ lw_all := lw_q 788 (by decide +kernel) rfl
theorem q789 : Cond.code yJ9_floorDiv_f86c9 cJ9_floorDiv_f86c9 6 (some .long) ∈ lw_all := lw_q 789 (by decide +kernel) rfl
theorem q790 : Cond.constantLong RX3 151 (2) ∈ lw_all := lw_q 790 (by decide +kernel) rfl
theorem q791 : Cond.methodLink RX3 153 yX3_volumesAt ∈ lw_all := lw_q 791 (by decide +kernel) rfl
theorem q792 : Cond.instanceMethod yX3_volumesAt ∈ lw_all := lw_q 792 (by decide +kernel) rfl
theorem q793 : Cond.selects RX3 yX3_volumesAt yX3_volumesAt ∈ lw_all := lw_q 793 (by decide +kernel) rfl
theorem q794 : Cond.code yX3_volumesAt cX3_volumesAt 8 (some .long) ∈ lw_all := lw_q 794 (by decide +kernel) rfl
theorem q795 : Cond.methodLink RX3 125 yX6_columnAt ∈ lw_all := lw_q 795 (by decide +kernel) rfl
theorem q796 : Cond.instanceMethod yX6_columnAt ∈ lw_all := lw_q 796 (by decide +kernel) rfl
theorem q797 : Cond.selects RX6 yX6_columnAt yX6_columnAt ∈ lw_all := lw_q 797 (by decide +kernel) rfl
theorem q798 : Cond.code yX6_columnAt cX6_columnAt 3 (some .long) ∈ lw_all := lw_q 798 (by decide +kernel) rfl
theorem q799 : Cond.methodLink RX6 56 yX6_runAt ∈ lw_all := lw_q 799 (by decide +kernel) rfl
theorem q800 : Cond.instanceMethod yX6_runAt ∈ lw_all := lw_q 800 (by decide +kernel) rfl
theorem q801 : Cond.selects RX6 yX6_runAt yX6_runAt ∈ lw_all := lw_q 801 (by decide +kernel) rfl
theorem q802 : Cond.code yX6_runAt cX6_runAt 3 (some .long) ∈ lw_all := lw_q 802 (by decide +kernel) rfl
theorem q803 : Cond.constantLong RX6 54 (1000) ∈ lw_all := lw_q 803 (by decide +kernel) rfl
theorem q804 : Cond.methodLink RX6 60 Lib.MathLoose.min_long.x ∈ lw_all := lw_q 804 (by decide +kernel) rfl
theorem q805 : Cond.static Lib.MathLoose.min_long.x ∈ lw_all := lw_q 805 (by decide +kernel) rfl
theorem q806 : Cond.code Lib.MathLoose.min_long.x Lib.MathLoose.min_long.code 4 (some .long) ∈ lw_all := lw_q 806 (by decide +kernel) rfl
theorem q807 : Cond.methodLink RX6 66 Lib.MathLoose.max_long.x ∈ lw_all := lw_q 807 (by decide +kernel) rfl
theorem q808 : Cond.static Lib.MathLoose.max_long.x ∈ lw_all := lw_q 808 (by decide +kernel) rfl
theorem q809 : Cond.code Lib.MathLoose.max_long.x Lib.MathLoose.max_long.code 4 (some .long) ∈ lw_all := lw_q 809 (by decide +kernel) rfl
theorem q810 : Cond.methodLink RX3 133 yX3_breakTubes ∈ lw_all := lw_q 810 (by decide +kernel) rfl
theorem q812 : Cond.instanceMethod yX3_breakTubes ∈ lw_all := lw_q 812 (by decide +kernel) rfl
theorem q813 : Cond.code yX3_breakTubes cX3_breakTubes 8 (some .int) ∈ lw_all := lw_q 813 (by decide +kernel) rfl
theorem q814 : Cond.methodLink RX3 161 yX6_runAt ∈ lw_all := lw_q 814 (by decide +kernel) rfl
theorem q815 : Cond.methodLink RX3 164 yX6_fullColumn ∈ lw_all := lw_q 815 (by decide +kernel) rfl
theorem q824 : Cond.methodLink RX7 111 yX3_countInLeg ∈ lw_all := lw_q 824 (by decide +kernel) rfl
theorem q825 : Cond.instanceMethod yX3_countInLeg ∈ lw_all := lw_q 825 (by decide +kernel) rfl
theorem q826 : Cond.selects RX3 yX3_countInLeg yX3_countInLeg ∈ lw_all := lw_q 826 (by decide +kernel) rfl
theorem q827 : Cond.code yX3_countInLeg cX3_countInLeg 4 (some .int) ∈ lw_all := lw_q 827 (by decide +kernel) rfl
theorem q851 : Cond.methodLink RX7 121 yX7_requirePoint ∈ lw_all := lw_q 851 (by decide +kernel) rfl
theorem q853 : Cond.instanceMethod yX7_requirePoint ∈ lw_all := lw_q 853 (by decide +kernel) rfl
theorem q854 : Cond.code yX7_requirePoint cX7_requirePoint 2 none ∈ lw_all := lw_q 854 (by decide +kernel) rfl
theorem q856 : Cond.methodLink RX7 124 yX3_pressureAt ∈ lw_all := lw_q 856 (by decide +kernel) rfl
theorem q864 : Cond.methodLink RX7 127 yX7_requireLeg ∈ lw_all := lw_q 864 (by decide +kernel) rfl
theorem q865 : Cond.static yX7_requireLeg ∈ lw_all := lw_q 865 (by decide +kernel) rfl
theorem q866 : Cond.code yX7_requireLeg cX7_requireLeg 1 none ∈ lw_all := lw_q 866 (by decide +kernel) rfl
theorem q868 : Cond.methodLink RX7 130 yX3_legAt ∈ lw_all := lw_q 868 (by decide +kernel) rfl
theorem q877 : Cond.methodLink RX7 151 yX3_volumesAt ∈ lw_all := lw_q 877 (by decide +kernel) rfl
theorem q886 : Cond.methodLink RX7 166 yX7_requireTube ∈ lw_all := lw_q 886 (by decide +kernel) rfl
theorem q888 : Cond.instanceMethod yX7_requireTube ∈ lw_all := lw_q 888 (by decide +kernel) rfl
theorem q889 : Cond.code yX7_requireTube cX7_requireTube 2 none ∈ lw_all := lw_q 889 (by decide +kernel) rfl
theorem q892 : Cond.methodLink RX7 171 yX3_numberOf ∈ lw_all := lw_q 892 (by decide +kernel) rfl
theorem q893 : Cond.instanceMethod yX3_numberOf ∈ lw_all := lw_q 893 (by decide +kernel) rfl
theorem q894 : Cond.selects RX3 yX3_numberOf yX3_numberOf ∈ lw_all := lw_q 894 (by decide +kernel) rfl
theorem q895 : Cond.code yX3_numberOf cX3_numberOf 4 (some .int) ∈ lw_all := lw_q 895 (by decide +kernel) rfl
theorem q896 : Cond.methodLink RX3 89 yX6_shownReading ∈ lw_all := lw_q 896 (by decide +kernel) rfl
theorem q904 : Cond.methodLink RX7 184 yX3_toldBy ∈ lw_all := lw_q 904 (by decide +kernel) rfl
theorem q905 : Cond.constant RX7 188 (-1000000000) ∈ lw_all := lw_q 905 (by decide +kernel) rfl
theorem q927 : Cond.methodLink RX7 196 yX6_fullColumn ∈ lw_all := lw_q 927 (by decide +kernel) rfl
theorem q935 : Cond.constant RX7 207 (99999) ∈ lw_all := lw_q 935 (by decide +kernel) rfl
theorem q936 : Cond.methodLink RX7 211 Lib.Math.min.name ∈ lw_all := lw_q 936 (by decide +kernel) rfl
theorem q937 : Cond.methodLink RX7 214 Lib.Math.max.name ∈ lw_all := lw_q 937 (by decide +kernel) rfl
theorem q938 : Cond.static Lib.Math.max.name ∈ lw_all := lw_q 938 (by decide +kernel) rfl
theorem q939 : Cond.code Lib.Math.max.name Lib.Math.max.code 2 (some .int) ∈ lw_all := lw_q 939 (by decide +kernel) rfl
theorem q947 : Cond.methodLink RX7 217 yX7_tryPressure ∈ lw_all := lw_q 947 (by decide +kernel) rfl
theorem q949 : Cond.instanceMethod yX7_tryPressure ∈ lw_all := lw_q 949 (by decide +kernel) rfl
theorem q950 : Cond.code yX7_tryPressure cX7_tryPressure 3 none ∈ lw_all := lw_q 950 (by decide +kernel) rfl
theorem q951 : Cond.methodLink RX7 223 yX3_press ∈ lw_all := lw_q 951 (by decide +kernel) rfl
theorem q987 : Cond.methodLink RX7 229 yX0_keep ∈ lw_all := lw_q 987 (by decide +kernel) rfl
theorem q988 : Cond.instanceMethod yX0_keep ∈ lw_all := lw_q 988 (by decide +kernel) rfl
theorem q989 : Cond.selects RX0 yX0_keep yX0_keep ∈ lw_all := lw_q 989 (by decide +kernel) rfl
theorem q990 : Cond.code yX0_keep cX0_keep 3 none ∈ lw_all := lw_q 990 (by decide +kernel) rfl
theorem q1019 : Cond.constant RX7 232 (-1000000001) ∈ lw_all := lw_q 1019 (by decide +kernel) rfl
theorem q1041 : Cond.constant RX7 236 (99999999) ∈ lw_all := lw_q 1041 (by decide +kernel) rfl
theorem q1042 : Cond.constantLong RX7 237 (2000000000) ∈ lw_all := lw_q 1042 (by decide +kernel) rfl
theorem q1050 : Cond.methodLink RX7 239 yX3_append ∈ lw_all := lw_q 1050 (by decide +kernel) rfl
theorem q1051 : Cond.methodLink RX7 242 yX6_stand ∈ lw_all := lw_q 1051 (by decide +kernel) rfl
theorem q1052 : Cond.methodLink RX7 245 yX6_shape ∈ lw_all := lw_q 1052 (by decide +kernel) rfl
theorem q1060 : Cond.methodLink RX7 248 yX3_remove ∈ lw_all := lw_q 1060 (by decide +kernel) rfl
theorem q1061 : Cond.instanceMethod yX3_remove ∈ lw_all := lw_q 1061 (by decide +kernel) rfl
theorem q1062 : Cond.selects RX3 yX3_remove yX3_remove ∈ lw_all := lw_q 1062 (by decide +kernel) rfl
theorem q1063 : Cond.code yX3_remove cX3_remove 3 none ∈ lw_all := lw_q 1063 (by decide +kernel) rfl
theorem q1071 : Cond.methodLink RX7 251 yJ4_setLength_d00df ∈ lw_all := lw_q 1071 (by decide +kernel) rfl
theorem q1072 : Cond.instanceMethod yJ4_setLength_d00df ∈ lw_all := lw_q 1072 (by decide +kernel) rfl
theorem q1073 : Cond.selects RJ4 yJ4_setLength_d00df yJ4_setLength_d00df ∈ lw_all := lw_q 1073 (by decide +kernel) rfl
theorem q1074 : Cond.code yJ4_setLength_d00df cJ4_setLength_d00df 2 none ∈ lw_all := lw_q 1074 (by decide +kernel) rfl
theorem q1075 : Cond.methodLink RJ4 333 yJ5_setLength_d00df ∈ lw_all := lw_q 1075 (by decide +kernel) rfl
theorem q1076 : Cond.instanceMethod yJ5_setLength_d00df ∈ lw_all := lw_q 1076 (by decide +kernel) rfl
theorem q1077 : Cond.code yJ5_setLength_d00df cJ5_setLength_d00df 2 none ∈ lw_all := lw_q 1077 (by decide +kernel) rfl
theorem q1078 : Cond.methodLink RJ5 100 yJ5_ensureCapacityInternal_d00df ∈ lw_all := lw_q 1078 (by decide +kernel) rfl
theorem q1080 : Cond.instanceMethod yJ5_ensureCapacityInternal_d00df ∈ lw_all := lw_q 1080 (by decide +kernel) rfl
theorem q1081 : Cond.code yJ5_ensureCapacityInternal_d00df cJ5_ensureCapacityInternal_d00df 3 none ∈ lw_all := lw_q 1081 (by decide +kernel) rfl
theorem q1107 : Cond.static arraycopyName ∈ lw_all := lw_q 1107 (by decide +kernel) rfl
theorem q1108 : Cond.native arraycopyName ∈ lw_all := lw_q 1108 (by decide +kernel) rfl
theorem q1109 : Cond.methodLink RJ5 83 yJ5_isLatin1_aae02 ∈ lw_all := lw_q 1109 (by decide +kernel) rfl
theorem q1110 : Cond.instanceMethod yJ5_isLatin1_aae02 ∈ lw_all := lw_q 1110 (by decide +kernel) rfl
theorem q1111 : Cond.sameMethod RJ5 RJ5 "isLatin1" "()Z" ∈ lw_all := lw_q 1111 (by decide +kernel) rfl
theorem q1112 : Cond.selects RJ4 yJ5_isLatin1_aae02 yJ5_isLatin1_aae02 ∈ lw_all := lw_q 1112 (by decide +kernel) rfl
theorem q1113 : Cond.code yJ5_isLatin1_aae02 cJ5_isLatin1_aae02 1 (some .boolean) ∈ lw_all := lw_q 1113 (by decide +kernel) rfl
theorem q1128 : Cond.instanceMethod yJ4_append_15ec4 ∈ lw_all := lw_q 1128 (by decide +kernel) rfl
theorem q1129 : Cond.selects RJ4 yJ4_append_15ec4 yJ4_append_15ec4 ∈ lw_all := lw_q 1129 (by decide +kernel) rfl
theorem q1130 : Cond.code yJ4_append_15ec4 cJ4_append_15ec4 2 (some (.object "java/lang/StringBuilder")) ∈ lw_all := lw_q 1130 (by decide +kernel) rfl
theorem q1131 : Cond.methodLink RJ4 29 yJ5_append_cf1ce ∈ lw_all := lw_q 1131 (by decide +kernel) rfl
theorem q1132 : Cond.instanceMethod yJ5_append_cf1ce ∈ lw_all := lw_q 1132 (by decide +kernel) rfl
theorem q1133 : Cond.code yJ5_append_cf1ce cJ5_append_cf1ce 3 (some (.object "java/lang/AbstractStringBuilder")) ∈ lw_all := lw_q 1133 (by decide +kernel) rfl
theorem q1153 : Cond.methodLink RJ5 32 yJ0_length_8abf5 ∈ lw_all := lw_q 1153 (by decide +kernel) rfl
theorem q1154 : Cond.methodLink RJ5 208 yJ5_putStringAt_47b60 ∈ lw_all := lw_q 1154 (by decide +kernel) rfl
theorem q1156 : Cond.instanceMethod yJ5_putStringAt_47b60 ∈ lw_all := lw_q 1156 (by decide +kernel) rfl
theorem q1157 : Cond.code yJ5_putStringAt_47b60 cJ5_putStringAt_47b60 3 none ∈ lw_all := lw_q 1157 (by decide +kernel) rfl
theorem q1158 : Cond.methodLink RJ5 397 yJ5_inflateIfNeededFor_a7421 ∈ lw_all := lw_q 1158 (by decide +kernel) rfl
theorem q1160 : Cond.instanceMethod yJ5_inflateIfNeededFor_a7421 ∈ lw_all := lw_q 1160 (by decide +kernel) rfl
theorem q1161 : Cond.code yJ5_inflateIfNeededFor_a7421 cJ5_inflateIfNeededFor_a7421 2 none ∈ lw_all := lw_q 1161 (by decide +kernel) rfl
theorem q1162 : Cond.methodLink RJ5 40 yJ0_coder_7d493 ∈ lw_all := lw_q 1162 (by decide +kernel) rfl
theorem q1182 : Cond.methodLink RJ5 399 yJ0_getBytes_840e7 ∈ lw_all := lw_q 1182 (by decide +kernel) rfl
theorem q1183 : Cond.instanceMethod yJ0_getBytes_840e7 ∈ lw_all := lw_q 1183 (by decide +kernel) rfl
theorem q1184 : Cond.selects RJ0 yJ0_getBytes_840e7 yJ0_getBytes_840e7 ∈ lw_all := lw_q 1184 (by decide +kernel) rfl
theorem q1185 : Cond.code yJ0_getBytes_840e7 cJ0_getBytes_840e7 4 none ∈ lw_all := lw_q 1185 (by decide +kernel) rfl
theorem q1186 : Cond.methodLink RJ0 212 arraycopyName ∈ lw_all := lw_q 1186 (by decide +kernel) rfl
theorem q1189 : Cond.instanceMethod yJ4_append_bf812 ∈ lw_all := lw_q 1189 (by decide +kernel) rfl
theorem q1190 : Cond.selects RJ4 yJ4_append_bf812 yJ4_append_bf812 ∈ lw_all := lw_q 1190 (by decide +kernel) rfl
theorem q1191 : Cond.code yJ4_append_bf812 cJ4_append_bf812 2 (some (.object "java/lang/StringBuilder")) ∈ lw_all := lw_q 1191 (by decide +kernel) rfl
theorem q1192 : Cond.methodLink RJ4 53 yJ5_append_c97b9 ∈ lw_all := lw_q 1192 (by decide +kernel) rfl
theorem q1193 : Cond.instanceMethod yJ5_append_c97b9 ∈ lw_all := lw_q 1193 (by decide +kernel) rfl
theorem q1194 : Cond.code yJ5_append_c97b9 cJ5_append_c97b9 4 (some (.object "java/lang/AbstractStringBuilder")) ∈ lw_all := lw_q 1194 (by decide +kernel) rfl
theorem q1195 : Cond.methodLink RJ5 245 yJ6_stringSize_0f7a4 ∈ lw_all := lw_q 1195 (by decide +kernel) rfl
theorem q1196 : Cond.static yJ6_stringSize_0f7a4 ∈ lw_all := lw_q 1196 (by decide +kernel) rfl
theorem q1197 : Cond.code yJ6_stringSize_0f7a4 cJ6_stringSize_0f7a4 4 (some .int) ∈ lw_all := lw_q 1197 (by decide +kernel) rfl
theorem q1198 : Cond.methodLink RJ5 248 yJ6_getChars_ba4f3 ∈ lw_all := lw_q 1198 (by decide +kernel) rfl
theorem q1199 : Cond.static yJ6_getChars_ba4f3 ∈ lw_all := lw_q 1199 (by decide +kernel) rfl
theorem q1200 : Cond.code yJ6_getChars_ba4f3 cJ6_getChars_ba4f3 7 (some .int) ∈ lw_all := lw_q 1200 (by decide +kernel) rfl
theorem q1201 : Cond.fieldLink RJ6 83 "java/lang/Integer" "DigitOnes" "[B" ∈ lw_all := lw_q 1201 (by decide +kernel) rfl
theorem q1203 : Cond.fieldLink RJ6 87 "java/lang/Integer" "DigitTens" "[B" ∈ lw_all := lw_q 1203 (by decide +kernel) rfl
theorem q1256 : Cond.fieldLink RJ0 9 "java/lang/String" "value" "[B" ∈ lw_all := lw_q 1256 (by decide +kernel) rfl
theorem q1257 : Cond.fieldLink RJ0 15 "java/lang/String" "coder" "B" ∈ lw_all := lw_q 1257 (by decide +kernel) rfl
theorem q1271 : Cond.methodLink RX7 257 yJ4_append_bf812 ∈ lw_all := lw_q 1271 (by decide +kernel) rfl
theorem q1272 : Cond.methodLink RX7 260 yJ4_append_cf468 ∈ lw_all := lw_q 1272 (by decide +kernel) rfl
theorem q1273 : Cond.instanceMethod yJ4_append_cf468 ∈ lw_all := lw_q 1273 (by decide +kernel) rfl
theorem q1274 : Cond.selects RJ4 yJ4_append_cf468 yJ4_append_cf468 ∈ lw_all := lw_q 1274 (by decide +kernel) rfl
theorem q1275 : Cond.code yJ4_append_cf468 cJ4_append_cf468 2 (some (.object "java/lang/StringBuilder")) ∈ lw_all := lw_q 1275 (by decide +kernel) rfl
theorem q1276 : Cond.methodLink RJ4 50 yJ5_append_3fe6f ∈ lw_all := lw_q 1276 (by decide +kernel) rfl
theorem q1277 : Cond.instanceMethod yJ5_append_3fe6f ∈ lw_all := lw_q 1277 (by decide +kernel) rfl
theorem q1278 : Cond.code yJ5_append_3fe6f cJ5_append_3fe6f 2 (some (.object "java/lang/AbstractStringBuilder")) ∈ lw_all := lw_q 1278 (by decide +kernel) rfl
theorem q1279 : Cond.methodLink RJ5 191 yJ1_canEncode_fc78d ∈ lw_all := lw_q 1279 (by decide +kernel) rfl
theorem q1280 : Cond.static yJ1_canEncode_fc78d ∈ lw_all := lw_q 1280 (by decide +kernel) rfl
theorem q1281 : Cond.code yJ1_canEncode_fc78d cJ1_canEncode_fc78d 1 (some .boolean) ∈ lw_all := lw_q 1281 (by decide +kernel) rfl
theorem q1287 : Cond.methodLink RX7 267 yJ4_append_15ec4 ∈ lw_all := lw_q 1287 (by decide +kernel) rfl
theorem q1301 : Cond.fieldLink RX2 9 "SlantGauges$QueryGrammar" "tokens" "LSlantGauges$Tokens;" ∈ lw_all := lw_q 1301 (by decide +kernel) rfl
theorem q1302 : Cond.fieldLink RX2 15 "SlantGauges$QueryGrammar" "row" "LSlantGauges$Row;" ∈ lw_all := lw_q 1302 (by decide +kernel) rfl
theorem q1313 : Cond.methodLink RX2 21 yX5_isWord ∈ lw_all := lw_q 1313 (by decide +kernel) rfl
theorem q1314 : Cond.methodLink RX2 27 yX5_advance ∈ lw_all := lw_q 1314 (by decide +kernel) rfl
theorem q1316 : Cond.methodLink RX2 32 yX5_takeWord ∈ lw_all := lw_q 1316 (by decide +kernel) rfl
theorem q1319 : Cond.instanceMethod yX2_test ∈ lw_all := lw_q 1319 (by decide +kernel) rfl
theorem q1320 : Cond.code yX2_test cX2_test 4 (some .int) ∈ lw_all := lw_q 1320 (by decide +kernel) rfl
theorem q1321 : Cond.methodLink RX2 36 yX2_conjunction ∈ lw_all := lw_q 1321 (by decide +kernel) rfl
theorem q1323 : Cond.instanceMethod yX2_conjunction ∈ lw_all := lw_q 1323 (by decide +kernel) rfl
theorem q1324 : Cond.code yX2_conjunction cX2_conjunction 4 (some .int) ∈ lw_all := lw_q 1324 (by decide +kernel) rfl
theorem q1325 : Cond.methodLink RX2 46 yX2_factor ∈ lw_all := lw_q 1325 (by decide +kernel) rfl
theorem q1327 : Cond.instanceMethod yX2_factor ∈ lw_all := lw_q 1327 (by decide +kernel) rfl
theorem q1328 : Cond.code yX2_factor cX2_factor 4 (some .int) ∈ lw_all := lw_q 1328 (by decide +kernel) rfl
theorem q1330 : Cond.methodLink RX2 53 yX5_isSign ∈ lw_all := lw_q 1330 (by decide +kernel) rfl
theorem q1331 : Cond.methodLink RX2 57 yX2_comparison ∈ lw_all := lw_q 1331 (by decide +kernel) rfl
theorem q1333 : Cond.instanceMethod yX2_comparison ∈ lw_all := lw_q 1333 (by decide +kernel) rfl
theorem q1334 : Cond.code yX2_comparison cX2_comparison 8 (some .int) ∈ lw_all := lw_q 1334 (by decide +kernel) rfl
theorem q1335 : Cond.methodLink RX2 78 yX2_operand ∈ lw_all := lw_q 1335 (by decide +kernel) rfl
theorem q1337 : Cond.instanceMethod yX2_operand ∈ lw_all := lw_q 1337 (by decide +kernel) rfl
theorem q1338 : Cond.code yX2_operand cX2_operand 2 (some .int) ∈ lw_all := lw_q 1338 (by decide +kernel) rfl
theorem q1339 : Cond.methodLink RX2 96 yX2_propertyNamed ∈ lw_all := lw_q 1339 (by decide +kernel) rfl
theorem q1341 : Cond.instanceMethod yX2_propertyNamed ∈ lw_all := lw_q 1341 (by decide +kernel) rfl
theorem q1342 : Cond.code yX2_propertyNamed cX2_propertyNamed 1 (some .int) ∈ lw_all := lw_q 1342 (by decide +kernel) rfl
theorem q1352 : Cond.methodLink RX2 61 yX5_fail ∈ lw_all := lw_q 1352 (by decide +kernel) rfl
theorem q1353 : Cond.constant RX2 99 (999999) ∈ lw_all := lw_q 1353 (by decide +kernel) rfl
theorem q1354 : Cond.methodLink RX2 74 yX5_takeSign ∈ lw_all := lw_q 1354 (by decide +kernel) rfl
theorem q1355 : Cond.methodLink RX2 81 yX2_valueFor ∈ lw_all := lw_q 1355 (by decide +kernel) rfl
theorem q1357 : Cond.instanceMethod yX2_valueFor ∈ lw_all := lw_q 1357 (by decide +kernel) rfl
theorem q1358 : Cond.code yX2_valueFor cX2_valueFor 3 (some .int) ∈ lw_all := lw_q 1358 (by decide +kernel) rfl
theorem q1359 : Cond.methodLink RX2 118 yX3_numberOf ∈ lw_all := lw_q 1359 (by decide +kernel) rfl
theorem q1360 : Cond.methodLink RX2 85 yJ6_compare_7cf53 ∈ lw_all := lw_q 1360 (by decide +kernel) rfl
theorem q1361 : Cond.static yJ6_compare_7cf53 ∈ lw_all := lw_q 1361 (by decide +kernel) rfl
theorem q1362 : Cond.code yJ6_compare_7cf53 cJ6_compare_7cf53 2 (some .int) ∈ lw_all := lw_q 1362 (by decide +kernel) rfl
theorem q1363 : Cond.methodLink RX2 71 yX2_test ∈ lw_all := lw_q 1363 (by decide +kernel) rfl
theorem q1364 : Cond.methodLink RX2 40 yX5_goesOn ∈ lw_all := lw_q 1364 (by decide +kernel) rfl
theorem q1374 : Cond.constant RJ6 265 (1431655765) ∈ lw_all := lw_q 1374 (by decide +kernel) rfl
theorem q1375 : Cond.constant RJ6 266 (858993459) ∈ lw_all := lw_q 1375 (by decide +kernel) rfl
theorem q1376 : Cond.constant RJ6 267 (252645135) ∈ lw_all := lw_q 1376 (by decide +kernel) rfl
theorem q1390 : Cond.constant RX8 57 (50000) ∈ lw_all := lw_q 1390 (by decide +kernel) rfl
theorem q1391 : Cond.methodLink RX8 58 yX8_begins ∈ lw_all := lw_q 1391 (by decide +kernel) rfl
theorem q1393 : Cond.instanceMethod yX8_begins ∈ lw_all := lw_q 1393 (by decide +kernel) rfl
theorem q1394 : Cond.code yX8_begins cX8_begins 4 none ∈ lw_all := lw_q 1394 (by decide +kernel) rfl
theorem q1395 : Cond.methodLink RX8 62 yX8_laysLeg ∈ lw_all := lw_q 1395 (by decide +kernel) rfl
theorem q1397 : Cond.instanceMethod yX8_laysLeg ∈ lw_all := lw_q 1397 (by decide +kernel) rfl
theorem q1398 : Cond.code yX8_laysLeg cX8_laysLeg 5 none ∈ lw_all := lw_q 1398 (by decide +kernel) rfl
theorem q1399 : Cond.fieldLink RX8 1 "SlantGaugesModel" "thrown" "I" ∈ lw_all := lw_q 1399 (by decide +kernel) rfl
theorem q1400 : Cond.fieldLink RX8 13 "SlantGaugesModel" "now" "[I" ∈ lw_all := lw_q 1400 (by decide +kernel) rfl
theorem q1401 : Cond.fieldLink RX8 17 "SlantGaugesModel" "saved" "[I" ∈ lw_all := lw_q 1401 (by decide +kernel) rfl
theorem q1402 : Cond.fieldLink RX8 20 "SlantGaugesModel" "aside" "[I" ∈ lw_all := lw_q 1402 (by decide +kernel) rfl
theorem q1403 : Cond.fieldLink RX8 23 "SlantGaugesModel" "before" "[I" ∈ lw_all := lw_q 1403 (by decide +kernel) rfl
theorem q1404 : Cond.fieldLink RX8 26 "SlantGaugesModel" "stocks" "[J" ∈ lw_all := lw_q 1404 (by decide +kernel) rfl
theorem q1405 : Cond.fieldLink RX8 30 "SlantGaugesModel" "savedStocks" "[J" ∈ lw_all := lw_q 1405 (by decide +kernel) rfl
theorem q1406 : Cond.fieldLink RX8 33 "SlantGaugesModel" "asideStocks" "[J" ∈ lw_all := lw_q 1406 (by decide +kernel) rfl
theorem q1407 : Cond.fieldLink RX8 36 "SlantGaugesModel" "stocksBefore" "[J" ∈ lw_all := lw_q 1407 (by decide +kernel) rfl
theorem q1408 : Cond.fieldLink RX8 206 "SlantGaugesModel" "undoable" "I" ∈ lw_all := lw_q 1408 (by decide +kernel) rfl
theorem q1409 : Cond.fieldLink RX8 209 "SlantGaugesModel" "isSaved" "Z" ∈ lw_all := lw_q 1409 (by decide +kernel) rfl
theorem q1410 : Cond.fieldLink RX8 39 "SlantGaugesModel" "buffer" "[I" ∈ lw_all := lw_q 1410 (by decide +kernel) rfl
theorem q1411 : Cond.fieldLink RX8 74 "SlantGaugesModel" "buffered" "I" ∈ lw_all := lw_q 1411 (by decide +kernel) rfl
theorem q1412 : Cond.fieldLink RX8 81 "SlantGaugesModel" "textEnd" "I" ∈ lw_all := lw_q 1412 (by decide +kernel) rfl
theorem q1413 : Cond.fieldLink RX8 88 "SlantGaugesModel" "at" "I" ∈ lw_all := lw_q 1413 (by decide +kernel) rfl
theorem q1414 : Cond.fieldLink RX8 99 "SlantGaugesModel" "begin" "I" ∈ lw_all := lw_q 1414 (by decide +kernel) rfl
theorem q1415 : Cond.fieldLink RX8 106 "SlantGaugesModel" "kind" "I" ∈ lw_all := lw_q 1415 (by decide +kernel) rfl
theorem q1416 : Cond.fieldLink RX8 109 "SlantGaugesModel" "value" "I" ∈ lw_all := lw_q 1416 (by decide +kernel) rfl
theorem q1417 : Cond.fieldLink RX8 84 "SlantGaugesModel" "word" "J" ∈ lw_all := lw_q 1417 (by decide +kernel) rfl
theorem q1418 : Cond.fieldLink RX8 122 "SlantGaugesModel" "wrong" "I" ∈ lw_all := lw_q 1418 (by decide +kernel) rfl
theorem q1419 : Cond.fieldLink RX8 42 "SlantGaugesModel" "wrongAt" "I" ∈ lw_all := lw_q 1419 (by decide +kernel) rfl
theorem q1420 : Cond.fieldLink RX8 45 "SlantGaugesModel" "formatted" "[I" ∈ lw_all := lw_q 1420 (by decide +kernel) rfl
theorem q1421 : Cond.fieldLink RX8 345 "SlantGaugesModel" "formattedMany" "I" ∈ lw_all := lw_q 1421 (by decide +kernel) rfl
theorem q1422 : Cond.fieldLink RX8 48 "SlantGaugesModel" "codes" "[I" ∈ lw_all := lw_q 1422 (by decide +kernel) rfl
theorem q1423 : Cond.fieldLink RX8 51 "SlantGaugesModel" "wait" "[I" ∈ lw_all := lw_q 1423 (by decide +kernel) rfl
theorem q1424 : Cond.fieldLink RX8 54 "SlantGaugesModel" "stack" "[I" ∈ lw_all := lw_q 1424 (by decide +kernel) rfl
theorem q1425 : Cond.fieldLink RX8 367 "SlantGaugesModel" "coded" "I" ∈ lw_all := lw_q 1425 (by decide +kernel) rfl
theorem q1426 : Cond.fieldLink RX8 392 "SlantGaugesModel" "waits" "I" ∈ lw_all := lw_q 1426 (by decide +kernel) rfl
theorem q1427 : Cond.fieldLink RX8 389 "SlantGaugesModel" "open" "I" ∈ lw_all := lw_q 1427 (by decide +kernel) rfl
theorem q1492 : Cond.methodLink RX8 77 yX8_lays ∈ lw_all := lw_q 1492 (by decide +kernel) rfl
theorem q1494 : Cond.instanceMethod yX8_lays ∈ lw_all := lw_q 1494 (by decide +kernel) rfl
theorem q1495 : Cond.code yX8_lays cX8_lays 3 none ∈ lw_all := lw_q 1495 (by decide +kernel) rfl
theorem q1504 : Cond.methodLink RX8 142 yX8_in ∈ lw_all := lw_q 1504 (by decide +kernel) rfl
theorem q1505 : Cond.static yX8_in ∈ lw_all := lw_q 1505 (by decide +kernel) rfl
theorem q1506 : Cond.code yX8_in cX8_in 6 (some .boolean) ∈ lw_all := lw_q 1506 (by decide +kernel) rfl
theorem q1507 : Cond.methodLink RX8 187 yX8_fails ∈ lw_all := lw_q 1507 (by decide +kernel) rfl
theorem q1509 : Cond.instanceMethod yX8_fails ∈ lw_all := lw_q 1509 (by decide +kernel) rfl
theorem q1510 : Cond.code yX8_fails cX8_fails 3 (some .boolean) ∈ lw_all := lw_q 1510 (by decide +kernel) rfl
theorem q1511 : Cond.methodLink RX8 191 yX8_laysAside ∈ lw_all := lw_q 1511 (by decide +kernel) rfl
theorem q1513 : Cond.instanceMethod yX8_laysAside ∈ lw_all := lw_q 1513 (by decide +kernel) rfl
theorem q1514 : Cond.code yX8_laysAside cX8_laysAside 1 none ∈ lw_all := lw_q 1514 (by decide +kernel) rfl
theorem q1515 : Cond.methodLink RX8 66 yX8_copies ∈ lw_all := lw_q 1515 (by decide +kernel) rfl
theorem q1516 : Cond.static yX8_copies ∈ lw_all := lw_q 1516 (by decide +kernel) rfl
theorem q1517 : Cond.code yX8_copies cX8_copies 5 none ∈ lw_all := lw_q 1517 (by decide +kernel) rfl
theorem q1518 : Cond.methodLink RX8 70 yX8_copiesLongs ∈ lw_all := lw_q 1518 (by decide +kernel) rfl
theorem q1519 : Cond.static yX8_copiesLongs ∈ lw_all := lw_q 1519 (by decide +kernel) rfl
theorem q1520 : Cond.code yX8_copiesLongs cX8_copiesLongs 5 none ∈ lw_all := lw_q 1520 (by decide +kernel) rfl
theorem q1521 : Cond.methodLink RX8 194 yX8_starts ∈ lw_all := lw_q 1521 (by decide +kernel) rfl
theorem q1523 : Cond.instanceMethod yX8_starts ∈ lw_all := lw_q 1523 (by decide +kernel) rfl
theorem q1524 : Cond.code yX8_starts cX8_starts 2 none ∈ lw_all := lw_q 1524 (by decide +kernel) rfl
theorem q1525 : Cond.methodLink RX8 125 yX8_next ∈ lw_all := lw_q 1525 (by decide +kernel) rfl
theorem q1527 : Cond.instanceMethod yX8_next ∈ lw_all := lw_q 1527 (by decide +kernel) rfl
theorem q1528 : Cond.code yX8_next cX8_next 1 none ∈ lw_all := lw_q 1528 (by decide +kernel) rfl
theorem q1529 : Cond.methodLink RX8 91 yX8_byteAt ∈ lw_all := lw_q 1529 (by decide +kernel) rfl
theorem q1531 : Cond.instanceMethod yX8_byteAt ∈ lw_all := lw_q 1531 (by decide +kernel) rfl
theorem q1532 : Cond.code yX8_byteAt cX8_byteAt 2 (some .int) ∈ lw_all := lw_q 1532 (by decide +kernel) rfl
theorem q1533 : Cond.methodLink RX8 95 yX8_isLetter ∈ lw_all := lw_q 1533 (by decide +kernel) rfl
theorem q1534 : Cond.static yX8_isLetter ∈ lw_all := lw_q 1534 (by decide +kernel) rfl
theorem q1535 : Cond.code yX8_isLetter cX8_isLetter 1 (some .boolean) ∈ lw_all := lw_q 1535 (by decide +kernel) rfl
theorem q1536 : Cond.methodLink RX8 116 yX8_readsWord ∈ lw_all := lw_q 1536 (by decide +kernel) rfl
theorem q1538 : Cond.instanceMethod yX8_readsWord ∈ lw_all := lw_q 1538 (by decide +kernel) rfl
theorem q1539 : Cond.code yX8_readsWord cX8_readsWord 1 none ∈ lw_all := lw_q 1539 (by decide +kernel) rfl
theorem q1540 : Cond.constantLong RX8 102 (27) ∈ lw_all := lw_q 1540 (by decide +kernel) rfl
theorem q1541 : Cond.constantLong RX8 104 (96) ∈ lw_all := lw_q 1541 (by decide +kernel) rfl
theorem q1542 : Cond.methodLink RX8 112 yX8_isFigure ∈ lw_all := lw_q 1542 (by decide +kernel) rfl
theorem q1543 : Cond.static yX8_isFigure ∈ lw_all := lw_q 1543 (by decide +kernel) rfl
theorem q1544 : Cond.code yX8_isFigure cX8_isFigure 1 (some .boolean) ∈ lw_all := lw_q 1544 (by decide +kernel) rfl
theorem q1545 : Cond.methodLink RX8 119 yX8_readsNumber ∈ lw_all := lw_q 1545 (by decide +kernel) rfl
theorem q1547 : Cond.instanceMethod yX8_readsNumber ∈ lw_all := lw_q 1547 (by decide +kernel) rfl
theorem q1548 : Cond.code yX8_readsNumber cX8_readsNumber 1 none ∈ lw_all := lw_q 1548 (by decide +kernel) rfl
theorem q1549 : Cond.constant RX8 115 (9999999) ∈ lw_all := lw_q 1549 (by decide +kernel) rfl
theorem q1550 : Cond.methodLink RX8 197 yX8_readsAll ∈ lw_all := lw_q 1550 (by decide +kernel) rfl
theorem q1552 : Cond.instanceMethod yX8_readsAll ∈ lw_all := lw_q 1552 (by decide +kernel) rfl
theorem q1553 : Cond.code yX8_readsAll cX8_readsAll 2 none ∈ lw_all := lw_q 1553 (by decide +kernel) rfl
theorem q1554 : Cond.constantLong RX8 167 (101392390) ∈ lw_all := lw_q 1554 (by decide +kernel) rfl
theorem q1555 : Cond.methodLink RX8 157 yX8_passes ∈ lw_all := lw_q 1555 (by decide +kernel) rfl
theorem q1557 : Cond.instanceMethod yX8_passes ∈ lw_all := lw_q 1557 (by decide +kernel) rfl
theorem q1558 : Cond.code yX8_passes cX8_passes 3 (some .boolean) ∈ lw_all := lw_q 1558 (by decide +kernel) rfl
theorem q1559 : Cond.methodLink RX8 132 yX8_isWord ∈ lw_all := lw_q 1559 (by decide +kernel) rfl
theorem q1561 : Cond.instanceMethod yX8_isWord ∈ lw_all := lw_q 1561 (by decide +kernel) rfl
theorem q1562 : Cond.code yX8_isWord cX8_isWord 3 (some .boolean) ∈ lw_all := lw_q 1562 (by decide +kernel) rfl
theorem q1563 : Cond.methodLink RX8 128 yX8_isGood ∈ lw_all := lw_q 1563 (by decide +kernel) rfl
theorem q1565 : Cond.instanceMethod yX8_isGood ∈ lw_all := lw_q 1565 (by decide +kernel) rfl
theorem q1566 : Cond.code yX8_isGood cX8_isGood 1 (some .boolean) ∈ lw_all := lw_q 1566 (by decide +kernel) rfl
theorem q1567 : Cond.methodLink RX8 139 yX8_wrongs ∈ lw_all := lw_q 1567 (by decide +kernel) rfl
theorem q1569 : Cond.instanceMethod yX8_wrongs ∈ lw_all := lw_q 1569 (by decide +kernel) rfl
theorem q1570 : Cond.code yX8_wrongs cX8_wrongs 2 (some .boolean) ∈ lw_all := lw_q 1570 (by decide +kernel) rfl
theorem q1571 : Cond.methodLink RX8 146 yX8_number ∈ lw_all := lw_q 1571 (by decide +kernel) rfl
theorem q1573 : Cond.instanceMethod yX8_number ∈ lw_all := lw_q 1573 (by decide +kernel) rfl
theorem q1574 : Cond.code yX8_number cX8_number 4 (some .int) ∈ lw_all := lw_q 1574 (by decide +kernel) rfl
theorem q1575 : Cond.constant RX8 150 (99999) ∈ lw_all := lw_q 1575 (by decide +kernel) rfl
theorem q1576 : Cond.methodLink RX8 169 yX8_must ∈ lw_all := lw_q 1576 (by decide +kernel) rfl
theorem q1578 : Cond.instanceMethod yX8_must ∈ lw_all := lw_q 1578 (by decide +kernel) rfl
theorem q1579 : Cond.code yX8_must cX8_must 2 none ∈ lw_all := lw_q 1579 (by decide +kernel) rfl
theorem q1580 : Cond.methodLink RX8 136 yX8_isByte ∈ lw_all := lw_q 1580 (by decide +kernel) rfl
theorem q1582 : Cond.instanceMethod yX8_isByte ∈ lw_all := lw_q 1582 (by decide +kernel) rfl
theorem q1583 : Cond.code yX8_isByte cX8_isByte 2 (some .boolean) ∈ lw_all := lw_q 1583 (by decide +kernel) rfl
theorem q1584 : Cond.constantLong RX8 172 (409028) ∈ lw_all := lw_q 1584 (by decide +kernel) rfl
theorem q1585 : Cond.methodLink RX8 174 yX8_readsTube ∈ lw_all := lw_q 1585 (by decide +kernel) rfl
theorem q1587 : Cond.instanceMethod yX8_readsTube ∈ lw_all := lw_q 1587 (by decide +kernel) rfl
theorem q1588 : Cond.code yX8_readsTube cX8_readsTube 8 none ∈ lw_all := lw_q 1588 (by decide +kernel) rfl
theorem q1589 : Cond.constantLong RX8 155 (257105) ∈ lw_all := lw_q 1589 (by decide +kernel) rfl
theorem q1590 : Cond.methodLink RX8 151 yX8_signed ∈ lw_all := lw_q 1590 (by decide +kernel) rfl
theorem q1592 : Cond.instanceMethod yX8_signed ∈ lw_all := lw_q 1592 (by decide +kernel) rfl
theorem q1593 : Cond.code yX8_signed cX8_signed 3 (some .int) ∈ lw_all := lw_q 1593 (by decide +kernel) rfl
theorem q1594 : Cond.methodLink RX8 160 yX8_laysTube ∈ lw_all := lw_q 1594 (by decide +kernel) rfl
theorem q1596 : Cond.instanceMethod yX8_laysTube ∈ lw_all := lw_q 1596 (by decide +kernel) rfl
theorem q1597 : Cond.code yX8_laysTube cX8_laysTube 7 none ∈ lw_all := lw_q 1597 (by decide +kernel) rfl
theorem q1598 : Cond.methodLink RX8 164 yX8_cell ∈ lw_all := lw_q 1598 (by decide +kernel) rfl
theorem q1599 : Cond.static yX8_cell ∈ lw_all := lw_q 1599 (by decide +kernel) rfl
theorem q1600 : Cond.code yX8_cell cX8_cell 2 (some .int) ∈ lw_all := lw_q 1600 (by decide +kernel) rfl
theorem q1601 : Cond.constantLong RX8 177 (8890) ∈ lw_all := lw_q 1601 (by decide +kernel) rfl
theorem q1602 : Cond.methodLink RX8 179 yX8_readsLeg ∈ lw_all := lw_q 1602 (by decide +kernel) rfl
theorem q1604 : Cond.instanceMethod yX8_readsLeg ∈ lw_all := lw_q 1604 (by decide +kernel) rfl
theorem q1605 : Cond.code yX8_readsLeg cX8_readsLeg 5 none ∈ lw_all := lw_q 1605 (by decide +kernel) rfl
theorem q1606 : Cond.constantLong RX8 182 (174421451741) ∈ lw_all := lw_q 1606 (by decide +kernel) rfl
theorem q1607 : Cond.methodLink RX8 184 yX8_readsPressure ∈ lw_all := lw_q 1607 (by decide +kernel) rfl
theorem q1609 : Cond.instanceMethod yX8_readsPressure ∈ lw_all := lw_q 1609 (by decide +kernel) rfl
theorem q1610 : Cond.code yX8_readsPressure cX8_readsPressure 3 none ∈ lw_all := lw_q 1610 (by decide +kernel) rfl
theorem q1611 : Cond.methodLink RX8 200 yX8_laysBack ∈ lw_all := lw_q 1611 (by decide +kernel) rfl
theorem q1613 : Cond.instanceMethod yX8_laysBack ∈ lw_all := lw_q 1613 (by decide +kernel) rfl
theorem q1614 : Cond.code yX8_laysBack cX8_laysBack 1 none ∈ lw_all := lw_q 1614 (by decide +kernel) rfl
theorem q1615 : Cond.methodLink RX8 203 yX8_settles ∈ lw_all := lw_q 1615 (by decide +kernel) rfl
theorem q1617 : Cond.instanceMethod yX8_settles ∈ lw_all := lw_q 1617 (by decide +kernel) rfl
theorem q1618 : Cond.code yX8_settles cX8_settles 4 (some .int) ∈ lw_all := lw_q 1618 (by decide +kernel) rfl
theorem q1619 : Cond.methodLink RX8 262 yX8_breaks ∈ lw_all := lw_q 1619 (by decide +kernel) rfl
theorem q1621 : Cond.instanceMethod yX8_breaks ∈ lw_all := lw_q 1621 (by decide +kernel) rfl
theorem q1622 : Cond.code yX8_breaks cX8_breaks 8 (some .int) ∈ lw_all := lw_q 1622 (by decide +kernel) rfl
theorem q1623 : Cond.methodLink RX8 255 yX8_levelOf ∈ lw_all := lw_q 1623 (by decide +kernel) rfl
theorem q1625 : Cond.instanceMethod yX8_levelOf ∈ lw_all := lw_q 1625 (by decide +kernel) rfl
theorem q1626 : Cond.code yX8_levelOf cX8_levelOf 12 (some .long) ∈ lw_all := lw_q 1626 (by decide +kernel) rfl
theorem q1627 : Cond.methodLink RX8 219 yX8_ofLeg ∈ lw_all := lw_q 1627 (by decide +kernel) rfl
theorem q1629 : Cond.instanceMethod yX8_ofLeg ∈ lw_all := lw_q 1629 (by decide +kernel) rfl
theorem q1630 : Cond.code yX8_ofLeg cX8_ofLeg 3 (some .int) ∈ lw_all := lw_q 1630 (by decide +kernel) rfl
theorem q1631 : Cond.methodLink RX8 216 yX8_of ∈ lw_all := lw_q 1631 (by decide +kernel) rfl
theorem q1633 : Cond.instanceMethod yX8_of ∈ lw_all := lw_q 1633 (by decide +kernel) rfl
theorem q1634 : Cond.code yX8_of cX8_of 3 (some .int) ∈ lw_all := lw_q 1634 (by decide +kernel) rfl
theorem q1635 : Cond.methodLink RX8 237 yX8_fullOf ∈ lw_all := lw_q 1635 (by decide +kernel) rfl
theorem q1637 : Cond.instanceMethod yX8_fullOf ∈ lw_all := lw_q 1637 (by decide +kernel) rfl
theorem q1638 : Cond.code yX8_fullOf cX8_fullOf 2 (some .int) ∈ lw_all := lw_q 1638 (by decide +kernel) rfl
theorem q1639 : Cond.methodLink RX8 243 yX8_volumeFor ∈ lw_all := lw_q 1639 (by decide +kernel) rfl
theorem q1641 : Cond.instanceMethod yX8_volumeFor ∈ lw_all := lw_q 1641 (by decide +kernel) rfl
theorem q1642 : Cond.code yX8_volumeFor cX8_volumeFor 4 (some .long) ∈ lw_all := lw_q 1642 (by decide +kernel) rfl
theorem q1643 : Cond.methodLink RX8 246 yX8_floors ∈ lw_all := lw_q 1643 (by decide +kernel) rfl
theorem q1644 : Cond.static yX8_floors ∈ lw_all := lw_q 1644 (by decide +kernel) rfl
theorem q1645 : Cond.code yX8_floors cX8_floors 6 (some .long) ∈ lw_all := lw_q 1645 (by decide +kernel) rfl
theorem q1646 : Cond.constantLong RX8 250 (2) ∈ lw_all := lw_q 1646 (by decide +kernel) rfl
theorem q1647 : Cond.methodLink RX8 252 yX8_volumesAt ∈ lw_all := lw_q 1647 (by decide +kernel) rfl
theorem q1649 : Cond.instanceMethod yX8_volumesAt ∈ lw_all := lw_q 1649 (by decide +kernel) rfl
theorem q1650 : Cond.code yX8_volumesAt cX8_volumesAt 7 (some .long) ∈ lw_all := lw_q 1650 (by decide +kernel) rfl
theorem q1651 : Cond.methodLink RX8 240 yX8_columnAt ∈ lw_all := lw_q 1651 (by decide +kernel) rfl
theorem q1653 : Cond.instanceMethod yX8_columnAt ∈ lw_all := lw_q 1653 (by decide +kernel) rfl
theorem q1654 : Cond.code yX8_columnAt cX8_columnAt 6 (some .long) ∈ lw_all := lw_q 1654 (by decide +kernel) rfl
theorem q1655 : Cond.methodLink RX8 230 yX8_isWhole ∈ lw_all := lw_q 1655 (by decide +kernel) rfl
theorem q1657 : Cond.instanceMethod yX8_isWhole ∈ lw_all := lw_q 1657 (by decide +kernel) rfl
theorem q1658 : Cond.code yX8_isWhole cX8_isWhole 2 (some .boolean) ∈ lw_all := lw_q 1658 (by decide +kernel) rfl
theorem q1659 : Cond.methodLink RX8 233 yX8_runAt ∈ lw_all := lw_q 1659 (by decide +kernel) rfl
theorem q1661 : Cond.instanceMethod yX8_runAt ∈ lw_all := lw_q 1661 (by decide +kernel) rfl
theorem q1662 : Cond.code yX8_runAt cX8_runAt 4 (some .long) ∈ lw_all := lw_q 1662 (by decide +kernel) rfl
theorem q1663 : Cond.methodLink RX8 222 yX8_pullOf ∈ lw_all := lw_q 1663 (by decide +kernel) rfl
theorem q1665 : Cond.instanceMethod yX8_pullOf ∈ lw_all := lw_q 1665 (by decide +kernel) rfl
theorem q1666 : Cond.code yX8_pullOf cX8_pullOf 2 (some .int) ∈ lw_all := lw_q 1666 (by decide +kernel) rfl
theorem q1667 : Cond.methodLink RX8 225 yX8_meniscusOf ∈ lw_all := lw_q 1667 (by decide +kernel) rfl
theorem q1669 : Cond.instanceMethod yX8_meniscusOf ∈ lw_all := lw_q 1669 (by decide +kernel) rfl
theorem q1670 : Cond.code yX8_meniscusOf cX8_meniscusOf 2 (some .int) ∈ lw_all := lw_q 1670 (by decide +kernel) rfl
theorem q1671 : Cond.constantLong RX8 228 (1000) ∈ lw_all := lw_q 1671 (by decide +kernel) rfl
theorem q1672 : Cond.methodLink RX8 213 yX8_many ∈ lw_all := lw_q 1672 (by decide +kernel) rfl
theorem q1674 : Cond.instanceMethod yX8_many ∈ lw_all := lw_q 1674 (by decide +kernel) rfl
theorem q1675 : Cond.code yX8_many cX8_many 4 (some .int) ∈ lw_all := lw_q 1675 (by decide +kernel) rfl
theorem q1680 : Cond.constantLong RX8 271 (7) ∈ lw_all := lw_q 1680 (by decide +kernel) rfl
theorem q1681 : Cond.methodLink RX8 273 yX8_inLeg ∈ lw_all := lw_q 1681 (by decide +kernel) rfl
theorem q1683 : Cond.instanceMethod yX8_inLeg ∈ lw_all := lw_q 1683 (by decide +kernel) rfl
theorem q1684 : Cond.code yX8_inLeg cX8_inLeg 4 (some .int) ∈ lw_all := lw_q 1684 (by decide +kernel) rfl
theorem q1689 : Cond.methodLink RX8 276 yX8_isPoint ∈ lw_all := lw_q 1689 (by decide +kernel) rfl
theorem q1691 : Cond.instanceMethod yX8_isPoint ∈ lw_all := lw_q 1691 (by decide +kernel) rfl
theorem q1692 : Cond.code yX8_isPoint cX8_isPoint 2 (some .boolean) ∈ lw_all := lw_q 1692 (by decide +kernel) rfl
theorem q1697 : Cond.methodLink RX8 279 yX8_isLeg ∈ lw_all := lw_q 1697 (by decide +kernel) rfl
theorem q1698 : Cond.static yX8_isLeg ∈ lw_all := lw_q 1698 (by decide +kernel) rfl
theorem q1699 : Cond.code yX8_isLeg cX8_isLeg 1 (some .boolean) ∈ lw_all := lw_q 1699 (by decide +kernel) rfl
theorem q1700 : Cond.constantLong RX8 282 (3) ∈ lw_all := lw_q 1700 (by decide +kernel) rfl
theorem q1705 : Cond.constantLong RX8 284 (4) ∈ lw_all := lw_q 1705 (by decide +kernel) rfl
theorem q1706 : Cond.methodLink RX8 286 yX8_leftOf ∈ lw_all := lw_q 1706 (by decide +kernel) rfl
theorem q1708 : Cond.instanceMethod yX8_leftOf ∈ lw_all := lw_q 1708 (by decide +kernel) rfl
theorem q1709 : Cond.code yX8_leftOf cX8_leftOf 4 (some .long) ∈ lw_all := lw_q 1709 (by decide +kernel) rfl
theorem q1714 : Cond.methodLink RX8 289 yX8_isTube ∈ lw_all := lw_q 1714 (by decide +kernel) rfl
theorem q1716 : Cond.instanceMethod yX8_isTube ∈ lw_all := lw_q 1716 (by decide +kernel) rfl
theorem q1717 : Cond.code yX8_isTube cX8_isTube 2 (some .boolean) ∈ lw_all := lw_q 1717 (by decide +kernel) rfl
theorem q1718 : Cond.constantLong RX8 292 (10) ∈ lw_all := lw_q 1718 (by decide +kernel) rfl
theorem q1719 : Cond.methodLink RX8 259 yX8_columnOf ∈ lw_all := lw_q 1719 (by decide +kernel) rfl
theorem q1721 : Cond.instanceMethod yX8_columnOf ∈ lw_all := lw_q 1721 (by decide +kernel) rfl
theorem q1722 : Cond.code yX8_columnOf cX8_columnOf 2 (some .int) ∈ lw_all := lw_q 1722 (by decide +kernel) rfl
theorem q1723 : Cond.methodLink RX8 294 yX8_readingOf ∈ lw_all := lw_q 1723 (by decide +kernel) rfl
theorem q1725 : Cond.instanceMethod yX8_readingOf ∈ lw_all := lw_q 1725 (by decide +kernel) rfl
theorem q1726 : Cond.code yX8_readingOf cX8_readingOf 2 (some .int) ∈ lw_all := lw_q 1726 (by decide +kernel) rfl
theorem q1731 : Cond.methodLink RX8 268 yX8_toldBy ∈ lw_all := lw_q 1731 (by decide +kernel) rfl
theorem q1733 : Cond.instanceMethod yX8_toldBy ∈ lw_all := lw_q 1733 (by decide +kernel) rfl
theorem q1734 : Cond.code yX8_toldBy cX8_toldBy 5 (some .int) ∈ lw_all := lw_q 1734 (by decide +kernel) rfl
theorem q1735 : Cond.methodLink RX8 265 yX8_upright ∈ lw_all := lw_q 1735 (by decide +kernel) rfl
theorem q1737 : Cond.instanceMethod yX8_upright ∈ lw_all := lw_q 1737 (by decide +kernel) rfl
theorem q1738 : Cond.code yX8_upright cX8_upright 2 (some .long) ∈ lw_all := lw_q 1738 (by decide +kernel) rfl
theorem q1739 : Cond.constant RX8 297 (-1000000000) ∈ lw_all := lw_q 1739 (by decide +kernel) rfl
theorem q1744 : Cond.methodLink RX8 298 yX8_offOf ∈ lw_all := lw_q 1744 (by decide +kernel) rfl
theorem q1746 : Cond.instanceMethod yX8_offOf ∈ lw_all := lw_q 1746 (by decide +kernel) rfl
theorem q1747 : Cond.code yX8_offOf cX8_offOf 2 (some .int) ∈ lw_all := lw_q 1747 (by decide +kernel) rfl
theorem q1752 : Cond.methodLink RX8 301 yX8_differenceOf ∈ lw_all := lw_q 1752 (by decide +kernel) rfl
theorem q1754 : Cond.instanceMethod yX8_differenceOf ∈ lw_all := lw_q 1754 (by decide +kernel) rfl
theorem q1755 : Cond.code yX8_differenceOf cX8_differenceOf 5 (some .int) ∈ lw_all := lw_q 1755 (by decide +kernel) rfl
theorem q1760 : Cond.methodLink RX8 304 yX8_nextWhole ∈ lw_all := lw_q 1760 (by decide +kernel) rfl
theorem q1762 : Cond.instanceMethod yX8_nextWhole ∈ lw_all := lw_q 1762 (by decide +kernel) rfl
theorem q1763 : Cond.code yX8_nextWhole cX8_nextWhole 3 (some .int) ∈ lw_all := lw_q 1763 (by decide +kernel) rfl
theorem q1776 : Cond.methodLink RX8 307 yX8_off0 ∈ lw_all := lw_q 1776 (by decide +kernel) rfl
theorem q1777 : Cond.static yX8_off0 ∈ lw_all := lw_q 1777 (by decide +kernel) rfl
theorem q1778 : Cond.code yX8_off0 cX8_off0 1 (some .int) ∈ lw_all := lw_q 1778 (by decide +kernel) rfl
theorem q1783 : Cond.methodLink RX8 312 yX8_isPressure ∈ lw_all := lw_q 1783 (by decide +kernel) rfl
theorem q1784 : Cond.static yX8_isPressure ∈ lw_all := lw_q 1784 (by decide +kernel) rfl
theorem q1785 : Cond.code yX8_isPressure cX8_isPressure 1 (some .boolean) ∈ lw_all := lw_q 1785 (by decide +kernel) rfl
theorem q1786 : Cond.constantLong RX8 310 (99999) ∈ lw_all := lw_q 1786 (by decide +kernel) rfl
theorem q1791 : Cond.methodLink RX8 315 yX8_brokenAside ∈ lw_all := lw_q 1791 (by decide +kernel) rfl
theorem q1793 : Cond.instanceMethod yX8_brokenAside ∈ lw_all := lw_q 1793 (by decide +kernel) rfl
theorem q1794 : Cond.code yX8_brokenAside cX8_brokenAside 3 (some .int) ∈ lw_all := lw_q 1794 (by decide +kernel) rfl
theorem q1803 : Cond.constantLong RX8 318 (-9999) ∈ lw_all := lw_q 1803 (by decide +kernel) rfl
theorem q1804 : Cond.constantLong RX8 320 (9999) ∈ lw_all := lw_q 1804 (by decide +kernel) rfl
theorem q1805 : Cond.methodLink RX8 322 yX8_held ∈ lw_all := lw_q 1805 (by decide +kernel) rfl
theorem q1806 : Cond.static yX8_held ∈ lw_all := lw_q 1806 (by decide +kernel) rfl
theorem q1807 : Cond.code yX8_held cX8_held 1 (some .int) ∈ lw_all := lw_q 1807 (by decide +kernel) rfl
theorem q1828 : Cond.methodLink RX8 328 yX8_sets ∈ lw_all := lw_q 1828 (by decide +kernel) rfl
theorem q1830 : Cond.instanceMethod yX8_sets ∈ lw_all := lw_q 1830 (by decide +kernel) rfl
theorem q1831 : Cond.code yX8_sets cX8_sets 3 (some .int) ∈ lw_all := lw_q 1831 (by decide +kernel) rfl
theorem q1832 : Cond.methodLink RX8 325 yX8_keeps ∈ lw_all := lw_q 1832 (by decide +kernel) rfl
theorem q1834 : Cond.instanceMethod yX8_keeps ∈ lw_all := lw_q 1834 (by decide +kernel) rfl
theorem q1835 : Cond.code yX8_keeps cX8_keeps 2 none ∈ lw_all := lw_q 1835 (by decide +kernel) rfl
theorem q1844 : Cond.constantLong RX8 331 (50) ∈ lw_all := lw_q 1844 (by decide +kernel) rfl
theorem q1849 : Cond.methodLink RX8 333 yX8_isSlant ∈ lw_all := lw_q 1849 (by decide +kernel) rfl
theorem q1850 : Cond.static yX8_isSlant ∈ lw_all := lw_q 1850 (by decide +kernel) rfl
theorem q1851 : Cond.code yX8_isSlant cX8_isSlant 1 (some .boolean) ∈ lw_all := lw_q 1851 (by decide +kernel) rfl
theorem q1856 : Cond.constant RX8 336 (-1000000001) ∈ lw_all := lw_q 1856 (by decide +kernel) rfl
theorem q1869 : Cond.constantLong RX8 337 (99999999) ∈ lw_all := lw_q 1869 (by decide +kernel) rfl
theorem q1870 : Cond.constantLong RX8 339 (2000000000) ∈ lw_all := lw_q 1870 (by decide +kernel) rfl
theorem q1875 : Cond.constantLong RX8 341 (20) ∈ lw_all := lw_q 1875 (by decide +kernel) rfl
theorem q1876 : Cond.constantLong RX8 343 (2000) ∈ lw_all := lw_q 1876 (by decide +kernel) rfl
theorem q1901 : Cond.methodLink RX8 353 yX8_writesNumber ∈ lw_all := lw_q 1901 (by decide +kernel) rfl
theorem q1903 : Cond.instanceMethod yX8_writesNumber ∈ lw_all := lw_q 1903 (by decide +kernel) rfl
theorem q1904 : Cond.code yX8_writesNumber cX8_writesNumber 3 none ∈ lw_all := lw_q 1904 (by decide +kernel) rfl
theorem q1905 : Cond.methodLink RX8 348 yX8_writes ∈ lw_all := lw_q 1905 (by decide +kernel) rfl
theorem q1907 : Cond.instanceMethod yX8_writes ∈ lw_all := lw_q 1907 (by decide +kernel) rfl
theorem q1908 : Cond.code yX8_writes cX8_writes 2 none ∈ lw_all := lw_q 1908 (by decide +kernel) rfl
theorem q1909 : Cond.methodLink RX8 356 yX8_writesSigned ∈ lw_all := lw_q 1909 (by decide +kernel) rfl
theorem q1911 : Cond.instanceMethod yX8_writesSigned ∈ lw_all := lw_q 1911 (by decide +kernel) rfl
theorem q1912 : Cond.code yX8_writesSigned cX8_writesSigned 2 none ∈ lw_all := lw_q 1912 (by decide +kernel) rfl
theorem q1913 : Cond.constantLong RX8 359 (283856701) ∈ lw_all := lw_q 1913 (by decide +kernel) rfl
theorem q1914 : Cond.constantLong RX8 361 (1310648) ∈ lw_all := lw_q 1914 (by decide +kernel) rfl
theorem q1915 : Cond.methodLink RX8 363 yX8_writesWord ∈ lw_all := lw_q 1915 (by decide +kernel) rfl
theorem q1917 : Cond.instanceMethod yX8_writesWord ∈ lw_all := lw_q 1917 (by decide +kernel) rfl
theorem q1918 : Cond.code yX8_writesWord cX8_writesWord 5 none ∈ lw_all := lw_q 1918 (by decide +kernel) rfl
theorem q1919 : Cond.constantLong RX8 351 (26) ∈ lw_all := lw_q 1919 (by decide +kernel) rfl
theorem q1928 : Cond.methodLink RX8 430 yX8_lesser ∈ lw_all := lw_q 1928 (by decide +kernel) rfl
theorem q1929 : Cond.static yX8_lesser ∈ lw_all := lw_q 1929 (by decide +kernel) rfl
theorem q1930 : Cond.code yX8_lesser cX8_lesser 2 (some .int) ∈ lw_all := lw_q 1930 (by decide +kernel) rfl
theorem q1931 : Cond.constantLong RX8 433 (3379448) ∈ lw_all := lw_q 1931 (by decide +kernel) rfl
theorem q1932 : Cond.constantLong RX8 435 (257011) ∈ lw_all := lw_q 1932 (by decide +kernel) rfl
theorem q1933 : Cond.methodLink RX8 437 yX8_reads ∈ lw_all := lw_q 1933 (by decide +kernel) rfl
theorem q1935 : Cond.instanceMethod yX8_reads ∈ lw_all := lw_q 1935 (by decide +kernel) rfl
theorem q1936 : Cond.code yX8_reads cX8_reads 3 none ∈ lw_all := lw_q 1936 (by decide +kernel) rfl
theorem q1937 : Cond.methodLink RX8 411 yX8_comparisonRead ∈ lw_all := lw_q 1937 (by decide +kernel) rfl
theorem q1939 : Cond.instanceMethod yX8_comparisonRead ∈ lw_all := lw_q 1939 (by decide +kernel) rfl
theorem q1940 : Cond.code yX8_comparisonRead cX8_comparisonRead 2 none ∈ lw_all := lw_q 1940 (by decide +kernel) rfl
theorem q1941 : Cond.constantLong RX8 398 (10631) ∈ lw_all := lw_q 1941 (by decide +kernel) rfl
theorem q1942 : Cond.methodLink RX8 400 yX8_goesIn ∈ lw_all := lw_q 1942 (by decide +kernel) rfl
theorem q1944 : Cond.instanceMethod yX8_goesIn ∈ lw_all := lw_q 1944 (by decide +kernel) rfl
theorem q1945 : Cond.code yX8_goesIn cX8_goesIn 2 (some .boolean) ∈ lw_all := lw_q 1945 (by decide +kernel) rfl
theorem q1946 : Cond.methodLink RX8 403 yX8_valueRead ∈ lw_all := lw_q 1946 (by decide +kernel) rfl
theorem q1948 : Cond.instanceMethod yX8_valueRead ∈ lw_all := lw_q 1948 (by decide +kernel) rfl
theorem q1949 : Cond.code yX8_valueRead cX8_valueRead 2 none ∈ lw_all := lw_q 1949 (by decide +kernel) rfl
theorem q1950 : Cond.constant RX8 382 (999999) ∈ lw_all := lw_q 1950 (by decide +kernel) rfl
theorem q1951 : Cond.methodLink RX8 383 yX8_adds ∈ lw_all := lw_q 1951 (by decide +kernel) rfl
theorem q1953 : Cond.instanceMethod yX8_adds ∈ lw_all := lw_q 1953 (by decide +kernel) rfl
theorem q1954 : Cond.code yX8_adds cX8_adds 2 none ∈ lw_all := lw_q 1954 (by decide +kernel) rfl
theorem q1955 : Cond.methodLink RX8 386 yX8_propertyHere ∈ lw_all := lw_q 1955 (by decide +kernel) rfl
theorem q1957 : Cond.instanceMethod yX8_propertyHere ∈ lw_all := lw_q 1957 (by decide +kernel) rfl
theorem q1958 : Cond.code yX8_propertyHere cX8_propertyHere 1 (some .int) ∈ lw_all := lw_q 1958 (by decide +kernel) rfl
theorem q1959 : Cond.constantLong RX8 370 (8805260) ∈ lw_all := lw_q 1959 (by decide +kernel) rfl
theorem q1960 : Cond.constantLong RX8 372 (50792) ∈ lw_all := lw_q 1960 (by decide +kernel) rfl
theorem q1961 : Cond.constantLong RX8 374 (10334702) ∈ lw_all := lw_q 1961 (by decide +kernel) rfl
theorem q1962 : Cond.constantLong RX8 376 (175125302) ∈ lw_all := lw_q 1962 (by decide +kernel) rfl
theorem q1963 : Cond.constantLong RX8 378 (10492313) ∈ lw_all := lw_q 1963 (by decide +kernel) rfl
theorem q1964 : Cond.constantLong RX8 380 (51270206) ∈ lw_all := lw_q 1964 (by decide +kernel) rfl
theorem q1965 : Cond.methodLink RX8 414 yX8_closes ∈ lw_all := lw_q 1965 (by decide +kernel) rfl
theorem q1967 : Cond.instanceMethod yX8_closes ∈ lw_all := lw_q 1967 (by decide +kernel) rfl
theorem q1968 : Cond.code yX8_closes cX8_closes 1 none ∈ lw_all := lw_q 1968 (by decide +kernel) rfl
theorem q1969 : Cond.methodLink RX8 406 yX8_settles_ ∈ lw_all := lw_q 1969 (by decide +kernel) rfl
theorem q1971 : Cond.instanceMethod yX8_settles_ ∈ lw_all := lw_q 1971 (by decide +kernel) rfl
theorem q1972 : Cond.code yX8_settles_ cX8_settles_ 2 none ∈ lw_all := lw_q 1972 (by decide +kernel) rfl
theorem q1973 : Cond.methodLink RX8 395 yX8_strength ∈ lw_all := lw_q 1973 (by decide +kernel) rfl
theorem q1974 : Cond.static yX8_strength ∈ lw_all := lw_q 1974 (by decide +kernel) rfl
theorem q1975 : Cond.code yX8_strength cX8_strength 1 (some .int) ∈ lw_all := lw_q 1975 (by decide +kernel) rfl
theorem q1976 : Cond.methodLink RX8 408 yX8_isInside ∈ lw_all := lw_q 1976 (by decide +kernel) rfl
theorem q1978 : Cond.instanceMethod yX8_isInside ∈ lw_all := lw_q 1978 (by decide +kernel) rfl
theorem q1979 : Cond.code yX8_isInside cX8_isInside 2 (some .boolean) ∈ lw_all := lw_q 1979 (by decide +kernel) rfl
theorem q1980 : Cond.constantLong RX8 417 (1111) ∈ lw_all := lw_q 1980 (by decide +kernel) rfl
theorem q1981 : Cond.constantLong RX8 419 (423) ∈ lw_all := lw_q 1981 (by decide +kernel) rfl
theorem q1982 : Cond.methodLink RX8 440 yX8_holds ∈ lw_all := lw_q 1982 (by decide +kernel) rfl
theorem q1984 : Cond.instanceMethod yX8_holds ∈ lw_all := lw_q 1984 (by decide +kernel) rfl
theorem q1985 : Cond.code yX8_holds cX8_holds 5 (some .boolean) ∈ lw_all := lw_q 1985 (by decide +kernel) rfl
theorem q1986 : Cond.constantLong RX8 421 (25) ∈ lw_all := lw_q 1986 (by decide +kernel) rfl
theorem q1987 : Cond.methodLink RX8 423 yX8_joined ∈ lw_all := lw_q 1987 (by decide +kernel) rfl
theorem q1988 : Cond.static yX8_joined ∈ lw_all := lw_q 1988 (by decide +kernel) rfl
theorem q1989 : Cond.code yX8_joined cX8_joined 3 (some .boolean) ∈ lw_all := lw_q 1989 (by decide +kernel) rfl
theorem q1990 : Cond.methodLink RX8 427 yX8_propertyOf ∈ lw_all := lw_q 1990 (by decide +kernel) rfl
theorem q1992 : Cond.instanceMethod yX8_propertyOf ∈ lw_all := lw_q 1992 (by decide +kernel) rfl
theorem q1993 : Cond.code yX8_propertyOf cX8_propertyOf 3 (some .int) ∈ lw_all := lw_q 1993 (by decide +kernel) rfl
theorem q1994 : Cond.sameMethod RJ5 RJ5 "length" "()I" ∈ lw_all := lw_q 1994 (by decide +kernel) rfl
theorem q1995 : Cond.sameMethod RJ5 RJ5 "charAt" "(I)C" ∈ lw_all := lw_q 1995 (by decide +kernel) rfl
theorem q1997 : Cond.sameMethod RJ5 RJ5 "setLength" "(I)V" ∈ lw_all := lw_q 1997 (by decide +kernel) rfl
theorem q1998 : Cond.sameMethod RJ5 RJ5 "ensureCapacityInternal" "(I)V" ∈ lw_all := lw_q 1998 (by decide +kernel) rfl
theorem q2000 : Cond.sameMethod RJ5 RJ5 "append" "(Ljava/lang/String;)Ljava/lang/AbstractStringBuilder;" ∈ lw_all := lw_q 2000 (by decide +kernel) rfl
theorem q2002 : Cond.sameMethod RJ5 RJ5 "putStringAt" "(ILjava/lang/String;)V" ∈ lw_all := lw_q 2002 (by decide +kernel) rfl
theorem q2003 : Cond.sameMethod RJ5 RJ5 "inflateIfNeededFor" "(Ljava/lang/String;)V" ∈ lw_all := lw_q 2003 (by decide +kernel) rfl
theorem q2005 : Cond.sameMethod RJ5 RJ5 "append" "(I)Ljava/lang/AbstractStringBuilder;" ∈ lw_all := lw_q 2005 (by decide +kernel) rfl
theorem q2007 : Cond.sameMethod RJ5 RJ5 "append" "(C)Ljava/lang/AbstractStringBuilder;" ∈ lw_all := lw_q 2007 (by decide +kernel) rfl
theorem q900000 : Cond.selects RJ4 yJ5_ensureCapacityInternal_d00df yJ5_ensureCapacityInternal_d00df ∈ lw_all := lw_qx (List.mem_of_getElem? (i := 0) rfl) rfl
theorem q900001 : Cond.selects RJ4 yJ5_putStringAt_47b60 yJ5_putStringAt_47b60 ∈ lw_all := lw_qx (List.mem_of_getElem? (i := 1) rfl) rfl
theorem q900002 : Cond.selects RJ4 yJ5_inflateIfNeededFor_a7421 yJ5_inflateIfNeededFor_a7421 ∈ lw_all := lw_qx (List.mem_of_getElem? (i := 2) rfl) rfl
theorem hv_J0_coder_7d493 : yJ0_coder_7d493.cls = RJ0 ∧ yJ0_coder_7d493.cls ≠ "java/lang/invoke/MethodHandle" ∧ yJ0_coder_7d493.cls ≠ "java/lang/invoke/VarHandle" ∧ (parseMethodDescriptor yJ0_coder_7d493.desc).map (fun d => d.parameters.length) = some 0 := by decide +kernel
theorem hs_J3_checkIndex_8e157 : yJ3_checkIndex_8e157.cls ≠ "java/lang/invoke/MethodHandle" ∧ yJ3_checkIndex_8e157.cls ≠ "java/lang/invoke/VarHandle" ∧ (parseMethodDescriptor yJ3_checkIndex_8e157.desc).map (fun d => d.parameters.length) = some 3 := by decide +kernel
theorem hs_J0_checkIndex_df160 : yJ0_checkIndex_df160.cls ≠ "java/lang/invoke/MethodHandle" ∧ yJ0_checkIndex_df160.cls ≠ "java/lang/invoke/VarHandle" ∧ (parseMethodDescriptor yJ0_checkIndex_df160.desc).map (fun d => d.parameters.length) = some 2 := by decide +kernel
theorem hv_J0_isLatin1_aae02 : yJ0_isLatin1_aae02.cls = RJ0 ∧ yJ0_isLatin1_aae02.cls ≠ "java/lang/invoke/MethodHandle" ∧ yJ0_isLatin1_aae02.cls ≠ "java/lang/invoke/VarHandle" ∧ (parseMethodDescriptor yJ0_isLatin1_aae02.desc).map (fun d => d.parameters.length) = some 0 := by decide +kernel
theorem hs_J1_charAt_3b067 : yJ1_charAt_3b067.cls ≠ "java/lang/invoke/MethodHandle" ∧ yJ1_charAt_3b067.cls ≠ "java/lang/invoke/VarHandle" ∧ (parseMethodDescriptor yJ1_charAt_3b067.desc).map (fun d => d.parameters.length) = some 2 := by decide +kernel
theorem hs_J5_inflateIfNeededFor_a7421 : yJ5_inflateIfNeededFor_a7421.cls ≠ "java/lang/invoke/MethodHandle" ∧ yJ5_inflateIfNeededFor_a7421.cls ≠ "java/lang/invoke/VarHandle" ∧ (parseMethodDescriptor yJ5_inflateIfNeededFor_a7421.desc).map (fun d => d.parameters.length) = some 1 := by decide +kernel
theorem hv_J0_getBytes_840e7 : yJ0_getBytes_840e7.cls = RJ0 ∧ yJ0_getBytes_840e7.cls ≠ "java/lang/invoke/MethodHandle" ∧ yJ0_getBytes_840e7.cls ≠ "java/lang/invoke/VarHandle" ∧ (parseMethodDescriptor yJ0_getBytes_840e7.desc).map (fun d => d.parameters.length) = some 3 := by decide +kernel
theorem hv_J0_length_8abf5 : yJ0_length_8abf5.cls = RJ0 ∧ yJ0_length_8abf5.cls ≠ "java/lang/invoke/MethodHandle" ∧ yJ0_length_8abf5.cls ≠ "java/lang/invoke/VarHandle" ∧ (parseMethodDescriptor yJ0_length_8abf5.desc).map (fun d => d.parameters.length) = some 0 := by decide +kernel
theorem hs_J5_ensureCapacityInternal_d00df : yJ5_ensureCapacityInternal_d00df.cls ≠ "java/lang/invoke/MethodHandle" ∧ yJ5_ensureCapacityInternal_d00df.cls ≠ "java/lang/invoke/VarHandle" ∧ (parseMethodDescriptor yJ5_ensureCapacityInternal_d00df.desc).map (fun d => d.parameters.length) = some 1 := by decide +kernel
theorem hs_J5_putStringAt_47b60 : yJ5_putStringAt_47b60.cls ≠ "java/lang/invoke/MethodHandle" ∧ yJ5_putStringAt_47b60.cls ≠ "java/lang/invoke/VarHandle" ∧ (parseMethodDescriptor yJ5_putStringAt_47b60.desc).map (fun d => d.parameters.length) = some 2 := by decide +kernel
theorem hs_J5_isLatin1_aae02 : yJ5_isLatin1_aae02.cls ≠ "java/lang/invoke/MethodHandle" ∧ yJ5_isLatin1_aae02.cls ≠ "java/lang/invoke/VarHandle" ∧ (parseMethodDescriptor yJ5_isLatin1_aae02.desc).map (fun d => d.parameters.length) = some 0 := by decide +kernel
theorem hs_J1_canEncode_fc78d : yJ1_canEncode_fc78d.cls ≠ "java/lang/invoke/MethodHandle" ∧ yJ1_canEncode_fc78d.cls ≠ "java/lang/invoke/VarHandle" ∧ (parseMethodDescriptor yJ1_canEncode_fc78d.desc).map (fun d => d.parameters.length) = some 1 := by decide +kernel
theorem hs_J6_stringSize_0f7a4 : yJ6_stringSize_0f7a4.cls ≠ "java/lang/invoke/MethodHandle" ∧ yJ6_stringSize_0f7a4.cls ≠ "java/lang/invoke/VarHandle" ∧ (parseMethodDescriptor yJ6_stringSize_0f7a4.desc).map (fun d => d.parameters.length) = some 1 := by decide +kernel
theorem hs_J6_getChars_ba4f3 : yJ6_getChars_ba4f3.cls ≠ "java/lang/invoke/MethodHandle" ∧ yJ6_getChars_ba4f3.cls ≠ "java/lang/invoke/VarHandle" ∧ (parseMethodDescriptor yJ6_getChars_ba4f3.desc).map (fun d => d.parameters.length) = some 3 := by decide +kernel
theorem hv_X6_stand : yX6_stand.cls = RX6 ∧ yX6_stand.cls ≠ "java/lang/invoke/MethodHandle" ∧ yX6_stand.cls ≠ "java/lang/invoke/VarHandle" ∧ (parseMethodDescriptor yX6_stand.desc).map (fun d => d.parameters.length) = some 2 := by decide +kernel
theorem hv_X6_shape : yX6_shape.cls = RX6 ∧ yX6_shape.cls ≠ "java/lang/invoke/MethodHandle" ∧ yX6_shape.cls ≠ "java/lang/invoke/VarHandle" ∧ (parseMethodDescriptor yX6_shape.desc).map (fun d => d.parameters.length) = some 3 := by decide +kernel
theorem hv_X6_fullColumn : yX6_fullColumn.cls = RX6 ∧ yX6_fullColumn.cls ≠ "java/lang/invoke/MethodHandle" ∧ yX6_fullColumn.cls ≠ "java/lang/invoke/VarHandle" ∧ (parseMethodDescriptor yX6_fullColumn.desc).map (fun d => d.parameters.length) = some 0 := by decide +kernel
theorem hv_X6_runAt : yX6_runAt.cls = RX6 ∧ yX6_runAt.cls ≠ "java/lang/invoke/MethodHandle" ∧ yX6_runAt.cls ≠ "java/lang/invoke/VarHandle" ∧ (parseMethodDescriptor yX6_runAt.desc).map (fun d => d.parameters.length) = some 1 := by decide +kernel
theorem hv_X1_liquid : yX1_liquid.cls = RX1 ∧ yX1_liquid.cls ≠ "java/lang/invoke/MethodHandle" ∧ yX1_liquid.cls ≠ "java/lang/invoke/VarHandle" ∧ (parseMethodDescriptor yX1_liquid.desc).map (fun d => d.parameters.length) = some 3 := by decide +kernel
theorem hv_X1_clear : yX1_clear.cls = RX1 ∧ yX1_clear.cls ≠ "java/lang/invoke/MethodHandle" ∧ yX1_clear.cls ≠ "java/lang/invoke/VarHandle" ∧ (parseMethodDescriptor yX1_clear.desc).map (fun d => d.parameters.length) = some 0 := by decide +kernel
theorem hv_X1_copyFrom : yX1_copyFrom.cls = RX1 ∧ yX1_copyFrom.cls ≠ "java/lang/invoke/MethodHandle" ∧ yX1_copyFrom.cls ≠ "java/lang/invoke/VarHandle" ∧ (parseMethodDescriptor yX1_copyFrom.desc).map (fun d => d.parameters.length) = some 1 := by decide +kernel
theorem hv_X3_tubeAt : yX3_tubeAt.cls = RX3 ∧ yX3_tubeAt.cls ≠ "java/lang/invoke/MethodHandle" ∧ yX3_tubeAt.cls ≠ "java/lang/invoke/VarHandle" ∧ (parseMethodDescriptor yX3_tubeAt.desc).map (fun d => d.parameters.length) = some 1 := by decide +kernel
theorem hv_X6_copyFrom : yX6_copyFrom.cls = RX6 ∧ yX6_copyFrom.cls ≠ "java/lang/invoke/MethodHandle" ∧ yX6_copyFrom.cls ≠ "java/lang/invoke/VarHandle" ∧ (parseMethodDescriptor yX6_copyFrom.desc).map (fun d => d.parameters.length) = some 1 := by decide +kernel
theorem hv_X3_pressureAt : yX3_pressureAt.cls = RX3 ∧ yX3_pressureAt.cls ≠ "java/lang/invoke/MethodHandle" ∧ yX3_pressureAt.cls ≠ "java/lang/invoke/VarHandle" ∧ (parseMethodDescriptor yX3_pressureAt.desc).map (fun d => d.parameters.length) = some 1 := by decide +kernel
theorem hv_X6_shownReading : yX6_shownReading.cls = RX6 ∧ yX6_shownReading.cls ≠ "java/lang/invoke/MethodHandle" ∧ yX6_shownReading.cls ≠ "java/lang/invoke/VarHandle" ∧ (parseMethodDescriptor yX6_shownReading.desc).map (fun d => d.parameters.length) = some 0 := by decide +kernel
theorem hv_X3_legAt : yX3_legAt.cls = RX3 ∧ yX3_legAt.cls ≠ "java/lang/invoke/MethodHandle" ∧ yX3_legAt.cls ≠ "java/lang/invoke/VarHandle" ∧ (parseMethodDescriptor yX3_legAt.desc).map (fun d => d.parameters.length) = some 1 := by decide +kernel
theorem hv_X6_columnHeight : yX6_columnHeight.cls = RX6 ∧ yX6_columnHeight.cls ≠ "java/lang/invoke/MethodHandle" ∧ yX6_columnHeight.cls ≠ "java/lang/invoke/VarHandle" ∧ (parseMethodDescriptor yX6_columnHeight.desc).map (fun d => d.parameters.length) = some 0 := by decide +kernel
theorem hv_X3_toldBy : yX3_toldBy.cls = RX3 ∧ yX3_toldBy.cls ≠ "java/lang/invoke/MethodHandle" ∧ yX3_toldBy.cls ≠ "java/lang/invoke/VarHandle" ∧ (parseMethodDescriptor yX3_toldBy.desc).map (fun d => d.parameters.length) = some 1 := by decide +kernel
theorem hv_X6_fullVolume : yX6_fullVolume.cls = RX6 ∧ yX6_fullVolume.cls ≠ "java/lang/invoke/MethodHandle" ∧ yX6_fullVolume.cls ≠ "java/lang/invoke/VarHandle" ∧ (parseMethodDescriptor yX6_fullVolume.desc).map (fun d => d.parameters.length) = some 0 := by decide +kernel
theorem hv_X6_columnAt : yX6_columnAt.cls = RX6 ∧ yX6_columnAt.cls ≠ "java/lang/invoke/MethodHandle" ∧ yX6_columnAt.cls ≠ "java/lang/invoke/VarHandle" ∧ (parseMethodDescriptor yX6_columnAt.desc).map (fun d => d.parameters.length) = some 1 := by decide +kernel
theorem hv_X3_fullVolumes : yX3_fullVolumes.cls = RX3 ∧ yX3_fullVolumes.cls ≠ "java/lang/invoke/MethodHandle" ∧ yX3_fullVolumes.cls ≠ "java/lang/invoke/VarHandle" ∧ (parseMethodDescriptor yX3_fullVolumes.desc).map (fun d => d.parameters.length) = some 1 := by decide +kernel
theorem hs_J9_floorDiv_f86c9 : yJ9_floorDiv_f86c9.cls ≠ "java/lang/invoke/MethodHandle" ∧ yJ9_floorDiv_f86c9.cls ≠ "java/lang/invoke/VarHandle" ∧ (parseMethodDescriptor yJ9_floorDiv_f86c9.desc).map (fun d => d.parameters.length) = some 2 := by decide +kernel
theorem hv_X3_volumesAt : yX3_volumesAt.cls = RX3 ∧ yX3_volumesAt.cls ≠ "java/lang/invoke/MethodHandle" ∧ yX3_volumesAt.cls ≠ "java/lang/invoke/VarHandle" ∧ (parseMethodDescriptor yX3_volumesAt.desc).map (fun d => d.parameters.length) = some 2 := by decide +kernel
theorem hv_X3_greatestLevel : yX3_greatestLevel.cls = RX3 ∧ yX3_greatestLevel.cls ≠ "java/lang/invoke/MethodHandle" ∧ yX3_greatestLevel.cls ≠ "java/lang/invoke/VarHandle" ∧ (parseMethodDescriptor yX3_greatestLevel.desc).map (fun d => d.parameters.length) = some 1 := by decide +kernel
theorem hv_X3_breakTubes : yX3_breakTubes.cls = RX3 ∧ yX3_breakTubes.cls ≠ "java/lang/invoke/MethodHandle" ∧ yX3_breakTubes.cls ≠ "java/lang/invoke/VarHandle" ∧ (parseMethodDescriptor yX3_breakTubes.desc).map (fun d => d.parameters.length) = some 1 := by decide +kernel
theorem hv_X3_settleLeg : yX3_settleLeg.cls = RX3 ∧ yX3_settleLeg.cls ≠ "java/lang/invoke/MethodHandle" ∧ yX3_settleLeg.cls ≠ "java/lang/invoke/VarHandle" ∧ (parseMethodDescriptor yX3_settleLeg.desc).map (fun d => d.parameters.length) = some 1 := by decide +kernel
theorem hv_X5_byteAt : yX5_byteAt.cls = RX5 ∧ yX5_byteAt.cls ≠ "java/lang/invoke/MethodHandle" ∧ yX5_byteAt.cls ≠ "java/lang/invoke/VarHandle" ∧ (parseMethodDescriptor yX5_byteAt.desc).map (fun d => d.parameters.length) = some 1 := by decide +kernel
theorem hs_X5_isLetter : yX5_isLetter.cls ≠ "java/lang/invoke/MethodHandle" ∧ yX5_isLetter.cls ≠ "java/lang/invoke/VarHandle" ∧ (parseMethodDescriptor yX5_isLetter.desc).map (fun d => d.parameters.length) = some 1 := by decide +kernel
theorem hs_X5_isDigit : yX5_isDigit.cls ≠ "java/lang/invoke/MethodHandle" ∧ yX5_isDigit.cls ≠ "java/lang/invoke/VarHandle" ∧ (parseMethodDescriptor yX5_isDigit.desc).map (fun d => d.parameters.length) = some 1 := by decide +kernel
theorem hv_X5_advance : yX5_advance.cls = RX5 ∧ yX5_advance.cls ≠ "java/lang/invoke/MethodHandle" ∧ yX5_advance.cls ≠ "java/lang/invoke/VarHandle" ∧ (parseMethodDescriptor yX5_advance.desc).map (fun d => d.parameters.length) = some 0 := by decide +kernel
theorem hv_J0_charAt_5068e : yJ0_charAt_5068e.cls = RJ0 ∧ yJ0_charAt_5068e.cls ≠ "java/lang/invoke/MethodHandle" ∧ yJ0_charAt_5068e.cls ≠ "java/lang/invoke/VarHandle" ∧ (parseMethodDescriptor yJ0_charAt_5068e.desc).map (fun d => d.parameters.length) = some 1 := by decide +kernel
theorem hv_X5_isWord : yX5_isWord.cls = RX5 ∧ yX5_isWord.cls ≠ "java/lang/invoke/MethodHandle" ∧ yX5_isWord.cls ≠ "java/lang/invoke/VarHandle" ∧ (parseMethodDescriptor yX5_isWord.desc).map (fun d => d.parameters.length) = some 1 := by decide +kernel
theorem hv_X5_fail : yX5_fail.cls = RX5 ∧ yX5_fail.cls ≠ "java/lang/invoke/MethodHandle" ∧ yX5_fail.cls ≠ "java/lang/invoke/VarHandle" ∧ (parseMethodDescriptor yX5_fail.desc).map (fun d => d.parameters.length) = some 1 := by decide +kernel
theorem hv_X5_isSign : yX5_isSign.cls = RX5 ∧ yX5_isSign.cls ≠ "java/lang/invoke/MethodHandle" ∧ yX5_isSign.cls ≠ "java/lang/invoke/VarHandle" ∧ (parseMethodDescriptor yX5_isSign.desc).map (fun d => d.parameters.length) = some 1 := by decide +kernel
theorem hv_X5_takeNumber : yX5_takeNumber.cls = RX5 ∧ yX5_takeNumber.cls ≠ "java/lang/invoke/MethodHandle" ∧ yX5_takeNumber.cls ≠ "java/lang/invoke/VarHandle" ∧ (parseMethodDescriptor yX5_takeNumber.desc).map (fun d => d.parameters.length) = some 2 := by decide +kernel
theorem hv_X8_laysLeg : yX8_laysLeg.cls = RX8 ∧ yX8_laysLeg.cls ≠ "java/lang/invoke/MethodHandle" ∧ yX8_laysLeg.cls ≠ "java/lang/invoke/VarHandle" ∧ (parseMethodDescriptor yX8_laysLeg.desc).map (fun d => d.parameters.length) = some 4 := by decide +kernel
theorem hs_X8_copies : yX8_copies.cls ≠ "java/lang/invoke/MethodHandle" ∧ yX8_copies.cls ≠ "java/lang/invoke/VarHandle" ∧ (parseMethodDescriptor yX8_copies.desc).map (fun d => d.parameters.length) = some 4 := by decide +kernel
theorem hs_X8_copiesLongs : yX8_copiesLongs.cls ≠ "java/lang/invoke/MethodHandle" ∧ yX8_copiesLongs.cls ≠ "java/lang/invoke/VarHandle" ∧ (parseMethodDescriptor yX8_copiesLongs.desc).map (fun d => d.parameters.length) = some 4 := by decide +kernel
theorem hv_X8_lays : yX8_lays.cls = RX8 ∧ yX8_lays.cls ≠ "java/lang/invoke/MethodHandle" ∧ yX8_lays.cls ≠ "java/lang/invoke/VarHandle" ∧ (parseMethodDescriptor yX8_lays.desc).map (fun d => d.parameters.length) = some 1 := by decide +kernel
theorem hv_X8_byteAt : yX8_byteAt.cls = RX8 ∧ yX8_byteAt.cls ≠ "java/lang/invoke/MethodHandle" ∧ yX8_byteAt.cls ≠ "java/lang/invoke/VarHandle" ∧ (parseMethodDescriptor yX8_byteAt.desc).map (fun d => d.parameters.length) = some 1 := by decide +kernel
theorem hs_X8_isLetter : yX8_isLetter.cls ≠ "java/lang/invoke/MethodHandle" ∧ yX8_isLetter.cls ≠ "java/lang/invoke/VarHandle" ∧ (parseMethodDescriptor yX8_isLetter.desc).map (fun d => d.parameters.length) = some 1 := by decide +kernel
theorem hs_X8_isFigure : yX8_isFigure.cls ≠ "java/lang/invoke/MethodHandle" ∧ yX8_isFigure.cls ≠ "java/lang/invoke/VarHandle" ∧ (parseMethodDescriptor yX8_isFigure.desc).map (fun d => d.parameters.length) = some 1 := by decide +kernel
theorem hv_X8_readsNumber : yX8_readsNumber.cls = RX8 ∧ yX8_readsNumber.cls ≠ "java/lang/invoke/MethodHandle" ∧ yX8_readsNumber.cls ≠ "java/lang/invoke/VarHandle" ∧ (parseMethodDescriptor yX8_readsNumber.desc).map (fun d => d.parameters.length) = some 0 := by decide +kernel
theorem hv_X8_readsWord : yX8_readsWord.cls = RX8 ∧ yX8_readsWord.cls ≠ "java/lang/invoke/MethodHandle" ∧ yX8_readsWord.cls ≠ "java/lang/invoke/VarHandle" ∧ (parseMethodDescriptor yX8_readsWord.desc).map (fun d => d.parameters.length) = some 0 := by decide +kernel
theorem hv_X8_next : yX8_next.cls = RX8 ∧ yX8_next.cls ≠ "java/lang/invoke/MethodHandle" ∧ yX8_next.cls ≠ "java/lang/invoke/VarHandle" ∧ (parseMethodDescriptor yX8_next.desc).map (fun d => d.parameters.length) = some 0 := by decide +kernel
theorem hv_X8_isGood : yX8_isGood.cls = RX8 ∧ yX8_isGood.cls ≠ "java/lang/invoke/MethodHandle" ∧ yX8_isGood.cls ≠ "java/lang/invoke/VarHandle" ∧ (parseMethodDescriptor yX8_isGood.desc).map (fun d => d.parameters.length) = some 0 := by decide +kernel
theorem hv_X8_isWord : yX8_isWord.cls = RX8 ∧ yX8_isWord.cls ≠ "java/lang/invoke/MethodHandle" ∧ yX8_isWord.cls ≠ "java/lang/invoke/VarHandle" ∧ (parseMethodDescriptor yX8_isWord.desc).map (fun d => d.parameters.length) = some 1 := by decide +kernel
theorem hv_X8_isByte : yX8_isByte.cls = RX8 ∧ yX8_isByte.cls ≠ "java/lang/invoke/MethodHandle" ∧ yX8_isByte.cls ≠ "java/lang/invoke/VarHandle" ∧ (parseMethodDescriptor yX8_isByte.desc).map (fun d => d.parameters.length) = some 1 := by decide +kernel
theorem hv_X8_wrongs : yX8_wrongs.cls = RX8 ∧ yX8_wrongs.cls ≠ "java/lang/invoke/MethodHandle" ∧ yX8_wrongs.cls ≠ "java/lang/invoke/VarHandle" ∧ (parseMethodDescriptor yX8_wrongs.desc).map (fun d => d.parameters.length) = some 1 := by decide +kernel
theorem hs_X8_in : yX8_in.cls ≠ "java/lang/invoke/MethodHandle" ∧ yX8_in.cls ≠ "java/lang/invoke/VarHandle" ∧ (parseMethodDescriptor yX8_in.desc).map (fun d => d.parameters.length) = some 3 := by decide +kernel
theorem hv_X8_number : yX8_number.cls = RX8 ∧ yX8_number.cls ≠ "java/lang/invoke/MethodHandle" ∧ yX8_number.cls ≠ "java/lang/invoke/VarHandle" ∧ (parseMethodDescriptor yX8_number.desc).map (fun d => d.parameters.length) = some 2 := by decide +kernel
theorem hv_X8_signed : yX8_signed.cls = RX8 ∧ yX8_signed.cls ≠ "java/lang/invoke/MethodHandle" ∧ yX8_signed.cls ≠ "java/lang/invoke/VarHandle" ∧ (parseMethodDescriptor yX8_signed.desc).map (fun d => d.parameters.length) = some 0 := by decide +kernel
theorem hs_X8_cell : yX8_cell.cls ≠ "java/lang/invoke/MethodHandle" ∧ yX8_cell.cls ≠ "java/lang/invoke/VarHandle" ∧ (parseMethodDescriptor yX8_cell.desc).map (fun d => d.parameters.length) = some 2 := by decide +kernel
theorem hv_X8_passes : yX8_passes.cls = RX8 ∧ yX8_passes.cls ≠ "java/lang/invoke/MethodHandle" ∧ yX8_passes.cls ≠ "java/lang/invoke/VarHandle" ∧ (parseMethodDescriptor yX8_passes.desc).map (fun d => d.parameters.length) = some 1 := by decide +kernel
theorem hv_X8_laysTube : yX8_laysTube.cls = RX8 ∧ yX8_laysTube.cls ≠ "java/lang/invoke/MethodHandle" ∧ yX8_laysTube.cls ≠ "java/lang/invoke/VarHandle" ∧ (parseMethodDescriptor yX8_laysTube.desc).map (fun d => d.parameters.length) = some 6 := by decide +kernel
theorem hv_X8_begins : yX8_begins.cls = RX8 ∧ yX8_begins.cls ≠ "java/lang/invoke/MethodHandle" ∧ yX8_begins.cls ≠ "java/lang/invoke/VarHandle" ∧ (parseMethodDescriptor yX8_begins.desc).map (fun d => d.parameters.length) = some 2 := by decide +kernel
theorem hv_X8_must : yX8_must.cls = RX8 ∧ yX8_must.cls ≠ "java/lang/invoke/MethodHandle" ∧ yX8_must.cls ≠ "java/lang/invoke/VarHandle" ∧ (parseMethodDescriptor yX8_must.desc).map (fun d => d.parameters.length) = some 1 := by decide +kernel
theorem hv_X8_readsPressure : yX8_readsPressure.cls = RX8 ∧ yX8_readsPressure.cls ≠ "java/lang/invoke/MethodHandle" ∧ yX8_readsPressure.cls ≠ "java/lang/invoke/VarHandle" ∧ (parseMethodDescriptor yX8_readsPressure.desc).map (fun d => d.parameters.length) = some 0 := by decide +kernel
theorem hv_X8_readsLeg : yX8_readsLeg.cls = RX8 ∧ yX8_readsLeg.cls ≠ "java/lang/invoke/MethodHandle" ∧ yX8_readsLeg.cls ≠ "java/lang/invoke/VarHandle" ∧ (parseMethodDescriptor yX8_readsLeg.desc).map (fun d => d.parameters.length) = some 0 := by decide +kernel
theorem hv_X8_readsTube : yX8_readsTube.cls = RX8 ∧ yX8_readsTube.cls ≠ "java/lang/invoke/MethodHandle" ∧ yX8_readsTube.cls ≠ "java/lang/invoke/VarHandle" ∧ (parseMethodDescriptor yX8_readsTube.desc).map (fun d => d.parameters.length) = some 0 := by decide +kernel
theorem hv_X8_of : yX8_of.cls = RX8 ∧ yX8_of.cls ≠ "java/lang/invoke/MethodHandle" ∧ yX8_of.cls ≠ "java/lang/invoke/VarHandle" ∧ (parseMethodDescriptor yX8_of.desc).map (fun d => d.parameters.length) = some 2 := by decide +kernel
theorem hv_X8_ofLeg : yX8_ofLeg.cls = RX8 ∧ yX8_ofLeg.cls ≠ "java/lang/invoke/MethodHandle" ∧ yX8_ofLeg.cls ≠ "java/lang/invoke/VarHandle" ∧ (parseMethodDescriptor yX8_ofLeg.desc).map (fun d => d.parameters.length) = some 2 := by decide +kernel
theorem hv_X8_pullOf : yX8_pullOf.cls = RX8 ∧ yX8_pullOf.cls ≠ "java/lang/invoke/MethodHandle" ∧ yX8_pullOf.cls ≠ "java/lang/invoke/VarHandle" ∧ (parseMethodDescriptor yX8_pullOf.desc).map (fun d => d.parameters.length) = some 1 := by decide +kernel
theorem hv_X8_meniscusOf : yX8_meniscusOf.cls = RX8 ∧ yX8_meniscusOf.cls ≠ "java/lang/invoke/MethodHandle" ∧ yX8_meniscusOf.cls ≠ "java/lang/invoke/VarHandle" ∧ (parseMethodDescriptor yX8_meniscusOf.desc).map (fun d => d.parameters.length) = some 1 := by decide +kernel
theorem hv_X8_isWhole : yX8_isWhole.cls = RX8 ∧ yX8_isWhole.cls ≠ "java/lang/invoke/MethodHandle" ∧ yX8_isWhole.cls ≠ "java/lang/invoke/VarHandle" ∧ (parseMethodDescriptor yX8_isWhole.desc).map (fun d => d.parameters.length) = some 1 := by decide +kernel
theorem hv_X8_runAt : yX8_runAt.cls = RX8 ∧ yX8_runAt.cls ≠ "java/lang/invoke/MethodHandle" ∧ yX8_runAt.cls ≠ "java/lang/invoke/VarHandle" ∧ (parseMethodDescriptor yX8_runAt.desc).map (fun d => d.parameters.length) = some 2 := by decide +kernel
theorem hv_X8_fullOf : yX8_fullOf.cls = RX8 ∧ yX8_fullOf.cls ≠ "java/lang/invoke/MethodHandle" ∧ yX8_fullOf.cls ≠ "java/lang/invoke/VarHandle" ∧ (parseMethodDescriptor yX8_fullOf.desc).map (fun d => d.parameters.length) = some 1 := by decide +kernel
theorem hv_X8_columnAt : yX8_columnAt.cls = RX8 ∧ yX8_columnAt.cls ≠ "java/lang/invoke/MethodHandle" ∧ yX8_columnAt.cls ≠ "java/lang/invoke/VarHandle" ∧ (parseMethodDescriptor yX8_columnAt.desc).map (fun d => d.parameters.length) = some 2 := by decide +kernel
theorem hv_X8_volumeFor : yX8_volumeFor.cls = RX8 ∧ yX8_volumeFor.cls ≠ "java/lang/invoke/MethodHandle" ∧ yX8_volumeFor.cls ≠ "java/lang/invoke/VarHandle" ∧ (parseMethodDescriptor yX8_volumeFor.desc).map (fun d => d.parameters.length) = some 2 := by decide +kernel
theorem hs_X8_floors : yX8_floors.cls ≠ "java/lang/invoke/MethodHandle" ∧ yX8_floors.cls ≠ "java/lang/invoke/VarHandle" ∧ (parseMethodDescriptor yX8_floors.desc).map (fun d => d.parameters.length) = some 2 := by decide +kernel
theorem hv_X8_volumesAt : yX8_volumesAt.cls = RX8 ∧ yX8_volumesAt.cls ≠ "java/lang/invoke/MethodHandle" ∧ yX8_volumesAt.cls ≠ "java/lang/invoke/VarHandle" ∧ (parseMethodDescriptor yX8_volumesAt.desc).map (fun d => d.parameters.length) = some 2 := by decide +kernel
theorem hv_X8_levelOf : yX8_levelOf.cls = RX8 ∧ yX8_levelOf.cls ≠ "java/lang/invoke/MethodHandle" ∧ yX8_levelOf.cls ≠ "java/lang/invoke/VarHandle" ∧ (parseMethodDescriptor yX8_levelOf.desc).map (fun d => d.parameters.length) = some 1 := by decide +kernel
theorem hv_X8_breaks : yX8_breaks.cls = RX8 ∧ yX8_breaks.cls ≠ "java/lang/invoke/MethodHandle" ∧ yX8_breaks.cls ≠ "java/lang/invoke/VarHandle" ∧ (parseMethodDescriptor yX8_breaks.desc).map (fun d => d.parameters.length) = some 1 := by decide +kernel
theorem hv_X8_fails : yX8_fails.cls = RX8 ∧ yX8_fails.cls ≠ "java/lang/invoke/MethodHandle" ∧ yX8_fails.cls ≠ "java/lang/invoke/VarHandle" ∧ (parseMethodDescriptor yX8_fails.desc).map (fun d => d.parameters.length) = some 2 := by decide +kernel
theorem hv_X8_laysAside : yX8_laysAside.cls = RX8 ∧ yX8_laysAside.cls ≠ "java/lang/invoke/MethodHandle" ∧ yX8_laysAside.cls ≠ "java/lang/invoke/VarHandle" ∧ (parseMethodDescriptor yX8_laysAside.desc).map (fun d => d.parameters.length) = some 0 := by decide +kernel
theorem hv_X8_starts : yX8_starts.cls = RX8 ∧ yX8_starts.cls ≠ "java/lang/invoke/MethodHandle" ∧ yX8_starts.cls ≠ "java/lang/invoke/VarHandle" ∧ (parseMethodDescriptor yX8_starts.desc).map (fun d => d.parameters.length) = some 1 := by decide +kernel
theorem hv_X8_readsAll : yX8_readsAll.cls = RX8 ∧ yX8_readsAll.cls ≠ "java/lang/invoke/MethodHandle" ∧ yX8_readsAll.cls ≠ "java/lang/invoke/VarHandle" ∧ (parseMethodDescriptor yX8_readsAll.desc).map (fun d => d.parameters.length) = some 0 := by decide +kernel
theorem hv_X8_settles : yX8_settles.cls = RX8 ∧ yX8_settles.cls ≠ "java/lang/invoke/MethodHandle" ∧ yX8_settles.cls ≠ "java/lang/invoke/VarHandle" ∧ (parseMethodDescriptor yX8_settles.desc).map (fun d => d.parameters.length) = some 0 := by decide +kernel
theorem hv_X8_many : yX8_many.cls = RX8 ∧ yX8_many.cls ≠ "java/lang/invoke/MethodHandle" ∧ yX8_many.cls ≠ "java/lang/invoke/VarHandle" ∧ (parseMethodDescriptor yX8_many.desc).map (fun d => d.parameters.length) = some 1 := by decide +kernel
theorem hv_X8_laysBack : yX8_laysBack.cls = RX8 ∧ yX8_laysBack.cls ≠ "java/lang/invoke/MethodHandle" ∧ yX8_laysBack.cls ≠ "java/lang/invoke/VarHandle" ∧ (parseMethodDescriptor yX8_laysBack.desc).map (fun d => d.parameters.length) = some 0 := by decide +kernel
theorem hv_X8_columnOf : yX8_columnOf.cls = RX8 ∧ yX8_columnOf.cls ≠ "java/lang/invoke/MethodHandle" ∧ yX8_columnOf.cls ≠ "java/lang/invoke/VarHandle" ∧ (parseMethodDescriptor yX8_columnOf.desc).map (fun d => d.parameters.length) = some 1 := by decide +kernel
theorem hv_X8_upright : yX8_upright.cls = RX8 ∧ yX8_upright.cls ≠ "java/lang/invoke/MethodHandle" ∧ yX8_upright.cls ≠ "java/lang/invoke/VarHandle" ∧ (parseMethodDescriptor yX8_upright.desc).map (fun d => d.parameters.length) = some 1 := by decide +kernel
theorem hv_X8_toldBy : yX8_toldBy.cls = RX8 ∧ yX8_toldBy.cls ≠ "java/lang/invoke/MethodHandle" ∧ yX8_toldBy.cls ≠ "java/lang/invoke/VarHandle" ∧ (parseMethodDescriptor yX8_toldBy.desc).map (fun d => d.parameters.length) = some 1 := by decide +kernel
theorem hv_X8_inLeg : yX8_inLeg.cls = RX8 ∧ yX8_inLeg.cls ≠ "java/lang/invoke/MethodHandle" ∧ yX8_inLeg.cls ≠ "java/lang/invoke/VarHandle" ∧ (parseMethodDescriptor yX8_inLeg.desc).map (fun d => d.parameters.length) = some 1 := by decide +kernel
theorem hv_X8_isPoint : yX8_isPoint.cls = RX8 ∧ yX8_isPoint.cls ≠ "java/lang/invoke/MethodHandle" ∧ yX8_isPoint.cls ≠ "java/lang/invoke/VarHandle" ∧ (parseMethodDescriptor yX8_isPoint.desc).map (fun d => d.parameters.length) = some 1 := by decide +kernel
theorem hs_X8_isLeg : yX8_isLeg.cls ≠ "java/lang/invoke/MethodHandle" ∧ yX8_isLeg.cls ≠ "java/lang/invoke/VarHandle" ∧ (parseMethodDescriptor yX8_isLeg.desc).map (fun d => d.parameters.length) = some 1 := by decide +kernel
theorem hv_X8_leftOf : yX8_leftOf.cls = RX8 ∧ yX8_leftOf.cls ≠ "java/lang/invoke/MethodHandle" ∧ yX8_leftOf.cls ≠ "java/lang/invoke/VarHandle" ∧ (parseMethodDescriptor yX8_leftOf.desc).map (fun d => d.parameters.length) = some 1 := by decide +kernel
theorem hv_X8_isTube : yX8_isTube.cls = RX8 ∧ yX8_isTube.cls ≠ "java/lang/invoke/MethodHandle" ∧ yX8_isTube.cls ≠ "java/lang/invoke/VarHandle" ∧ (parseMethodDescriptor yX8_isTube.desc).map (fun d => d.parameters.length) = some 1 := by decide +kernel
theorem hv_X8_readingOf : yX8_readingOf.cls = RX8 ∧ yX8_readingOf.cls ≠ "java/lang/invoke/MethodHandle" ∧ yX8_readingOf.cls ≠ "java/lang/invoke/VarHandle" ∧ (parseMethodDescriptor yX8_readingOf.desc).map (fun d => d.parameters.length) = some 1 := by decide +kernel
theorem hv_X8_offOf : yX8_offOf.cls = RX8 ∧ yX8_offOf.cls ≠ "java/lang/invoke/MethodHandle" ∧ yX8_offOf.cls ≠ "java/lang/invoke/VarHandle" ∧ (parseMethodDescriptor yX8_offOf.desc).map (fun d => d.parameters.length) = some 1 := by decide +kernel
theorem hv_X8_differenceOf : yX8_differenceOf.cls = RX8 ∧ yX8_differenceOf.cls ≠ "java/lang/invoke/MethodHandle" ∧ yX8_differenceOf.cls ≠ "java/lang/invoke/VarHandle" ∧ (parseMethodDescriptor yX8_differenceOf.desc).map (fun d => d.parameters.length) = some 2 := by decide +kernel
theorem hv_X8_nextWhole : yX8_nextWhole.cls = RX8 ∧ yX8_nextWhole.cls ≠ "java/lang/invoke/MethodHandle" ∧ yX8_nextWhole.cls ≠ "java/lang/invoke/VarHandle" ∧ (parseMethodDescriptor yX8_nextWhole.desc).map (fun d => d.parameters.length) = some 1 := by decide +kernel
theorem hs_X8_off0 : yX8_off0.cls ≠ "java/lang/invoke/MethodHandle" ∧ yX8_off0.cls ≠ "java/lang/invoke/VarHandle" ∧ (parseMethodDescriptor yX8_off0.desc).map (fun d => d.parameters.length) = some 1 := by decide +kernel
theorem hs_X8_isPressure : yX8_isPressure.cls ≠ "java/lang/invoke/MethodHandle" ∧ yX8_isPressure.cls ≠ "java/lang/invoke/VarHandle" ∧ (parseMethodDescriptor yX8_isPressure.desc).map (fun d => d.parameters.length) = some 1 := by decide +kernel
theorem hv_X8_brokenAside : yX8_brokenAside.cls = RX8 ∧ yX8_brokenAside.cls ≠ "java/lang/invoke/MethodHandle" ∧ yX8_brokenAside.cls ≠ "java/lang/invoke/VarHandle" ∧ (parseMethodDescriptor yX8_brokenAside.desc).map (fun d => d.parameters.length) = some 0 := by decide +kernel
theorem hs_X8_held : yX8_held.cls ≠ "java/lang/invoke/MethodHandle" ∧ yX8_held.cls ≠ "java/lang/invoke/VarHandle" ∧ (parseMethodDescriptor yX8_held.desc).map (fun d => d.parameters.length) = some 1 := by decide +kernel
theorem hv_X8_keeps : yX8_keeps.cls = RX8 ∧ yX8_keeps.cls ≠ "java/lang/invoke/MethodHandle" ∧ yX8_keeps.cls ≠ "java/lang/invoke/VarHandle" ∧ (parseMethodDescriptor yX8_keeps.desc).map (fun d => d.parameters.length) = some 0 := by decide +kernel
theorem hv_X8_sets : yX8_sets.cls = RX8 ∧ yX8_sets.cls ≠ "java/lang/invoke/MethodHandle" ∧ yX8_sets.cls ≠ "java/lang/invoke/VarHandle" ∧ (parseMethodDescriptor yX8_sets.desc).map (fun d => d.parameters.length) = some 2 := by decide +kernel
theorem hs_X8_isSlant : yX8_isSlant.cls ≠ "java/lang/invoke/MethodHandle" ∧ yX8_isSlant.cls ≠ "java/lang/invoke/VarHandle" ∧ (parseMethodDescriptor yX8_isSlant.desc).map (fun d => d.parameters.length) = some 1 := by decide +kernel
theorem hv_X8_writes : yX8_writes.cls = RX8 ∧ yX8_writes.cls ≠ "java/lang/invoke/MethodHandle" ∧ yX8_writes.cls ≠ "java/lang/invoke/VarHandle" ∧ (parseMethodDescriptor yX8_writes.desc).map (fun d => d.parameters.length) = some 1 := by decide +kernel
theorem hv_X8_writesNumber : yX8_writesNumber.cls = RX8 ∧ yX8_writesNumber.cls ≠ "java/lang/invoke/MethodHandle" ∧ yX8_writesNumber.cls ≠ "java/lang/invoke/VarHandle" ∧ (parseMethodDescriptor yX8_writesNumber.desc).map (fun d => d.parameters.length) = some 1 := by decide +kernel
theorem hv_X8_writesWord : yX8_writesWord.cls = RX8 ∧ yX8_writesWord.cls ≠ "java/lang/invoke/MethodHandle" ∧ yX8_writesWord.cls ≠ "java/lang/invoke/VarHandle" ∧ (parseMethodDescriptor yX8_writesWord.desc).map (fun d => d.parameters.length) = some 1 := by decide +kernel
theorem hv_X8_writesSigned : yX8_writesSigned.cls = RX8 ∧ yX8_writesSigned.cls ≠ "java/lang/invoke/MethodHandle" ∧ yX8_writesSigned.cls ≠ "java/lang/invoke/VarHandle" ∧ (parseMethodDescriptor yX8_writesSigned.desc).map (fun d => d.parameters.length) = some 1 := by decide +kernel
theorem hv_X8_propertyHere : yX8_propertyHere.cls = RX8 ∧ yX8_propertyHere.cls ≠ "java/lang/invoke/MethodHandle" ∧ yX8_propertyHere.cls ≠ "java/lang/invoke/VarHandle" ∧ (parseMethodDescriptor yX8_propertyHere.desc).map (fun d => d.parameters.length) = some 0 := by decide +kernel
theorem hv_X8_adds : yX8_adds.cls = RX8 ∧ yX8_adds.cls ≠ "java/lang/invoke/MethodHandle" ∧ yX8_adds.cls ≠ "java/lang/invoke/VarHandle" ∧ (parseMethodDescriptor yX8_adds.desc).map (fun d => d.parameters.length) = some 1 := by decide +kernel
theorem hs_X8_strength : yX8_strength.cls ≠ "java/lang/invoke/MethodHandle" ∧ yX8_strength.cls ≠ "java/lang/invoke/VarHandle" ∧ (parseMethodDescriptor yX8_strength.desc).map (fun d => d.parameters.length) = some 1 := by decide +kernel
theorem hv_X8_goesIn : yX8_goesIn.cls = RX8 ∧ yX8_goesIn.cls ≠ "java/lang/invoke/MethodHandle" ∧ yX8_goesIn.cls ≠ "java/lang/invoke/VarHandle" ∧ (parseMethodDescriptor yX8_goesIn.desc).map (fun d => d.parameters.length) = some 1 := by decide +kernel
theorem hv_X8_valueRead : yX8_valueRead.cls = RX8 ∧ yX8_valueRead.cls ≠ "java/lang/invoke/MethodHandle" ∧ yX8_valueRead.cls ≠ "java/lang/invoke/VarHandle" ∧ (parseMethodDescriptor yX8_valueRead.desc).map (fun d => d.parameters.length) = some 0 := by decide +kernel
theorem hv_X8_settles_ : yX8_settles_.cls = RX8 ∧ yX8_settles_.cls ≠ "java/lang/invoke/MethodHandle" ∧ yX8_settles_.cls ≠ "java/lang/invoke/VarHandle" ∧ (parseMethodDescriptor yX8_settles_.desc).map (fun d => d.parameters.length) = some 1 := by decide +kernel
theorem hv_X8_isInside : yX8_isInside.cls = RX8 ∧ yX8_isInside.cls ≠ "java/lang/invoke/MethodHandle" ∧ yX8_isInside.cls ≠ "java/lang/invoke/VarHandle" ∧ (parseMethodDescriptor yX8_isInside.desc).map (fun d => d.parameters.length) = some 0 := by decide +kernel
theorem hv_X8_comparisonRead : yX8_comparisonRead.cls = RX8 ∧ yX8_comparisonRead.cls ≠ "java/lang/invoke/MethodHandle" ∧ yX8_comparisonRead.cls ≠ "java/lang/invoke/VarHandle" ∧ (parseMethodDescriptor yX8_comparisonRead.desc).map (fun d => d.parameters.length) = some 0 := by decide +kernel
theorem hv_X8_closes : yX8_closes.cls = RX8 ∧ yX8_closes.cls ≠ "java/lang/invoke/MethodHandle" ∧ yX8_closes.cls ≠ "java/lang/invoke/VarHandle" ∧ (parseMethodDescriptor yX8_closes.desc).map (fun d => d.parameters.length) = some 0 := by decide +kernel
theorem hv_X8_propertyOf : yX8_propertyOf.cls = RX8 ∧ yX8_propertyOf.cls ≠ "java/lang/invoke/MethodHandle" ∧ yX8_propertyOf.cls ≠ "java/lang/invoke/VarHandle" ∧ (parseMethodDescriptor yX8_propertyOf.desc).map (fun d => d.parameters.length) = some 2 := by decide +kernel
theorem hs_X8_joined : yX8_joined.cls ≠ "java/lang/invoke/MethodHandle" ∧ yX8_joined.cls ≠ "java/lang/invoke/VarHandle" ∧ (parseMethodDescriptor yX8_joined.desc).map (fun d => d.parameters.length) = some 3 := by decide +kernel
theorem hs_X8_lesser : yX8_lesser.cls ≠ "java/lang/invoke/MethodHandle" ∧ yX8_lesser.cls ≠ "java/lang/invoke/VarHandle" ∧ (parseMethodDescriptor yX8_lesser.desc).map (fun d => d.parameters.length) = some 2 := by decide +kernel
theorem hv_X8_reads : yX8_reads.cls = RX8 ∧ yX8_reads.cls ≠ "java/lang/invoke/MethodHandle" ∧ yX8_reads.cls ≠ "java/lang/invoke/VarHandle" ∧ (parseMethodDescriptor yX8_reads.desc).map (fun d => d.parameters.length) = some 0 := by decide +kernel
theorem hv_X8_holds : yX8_holds.cls = RX8 ∧ yX8_holds.cls ≠ "java/lang/invoke/MethodHandle" ∧ yX8_holds.cls ≠ "java/lang/invoke/VarHandle" ∧ (parseMethodDescriptor yX8_holds.desc).map (fun d => d.parameters.length) = some 1 := by decide +kernel
theorem hs_J9_floorMod_7cf53 : yJ9_floorMod_7cf53.cls ≠ "java/lang/invoke/MethodHandle" ∧ yJ9_floorMod_7cf53.cls ≠ "java/lang/invoke/VarHandle" ∧ (parseMethodDescriptor yJ9_floorMod_7cf53.desc).map (fun d => d.parameters.length) = some 2 := by decide +kernel
theorem hv_X3_copyFrom : yX3_copyFrom.cls = RX3 ∧ yX3_copyFrom.cls ≠ "java/lang/invoke/MethodHandle" ∧ yX3_copyFrom.cls ≠ "java/lang/invoke/VarHandle" ∧ (parseMethodDescriptor yX3_copyFrom.desc).map (fun d => d.parameters.length) = some 1 := by decide +kernel
theorem hv_X5_takeSigned : yX5_takeSigned.cls = RX5 ∧ yX5_takeSigned.cls ≠ "java/lang/invoke/MethodHandle" ∧ yX5_takeSigned.cls ≠ "java/lang/invoke/VarHandle" ∧ (parseMethodDescriptor yX5_takeSigned.desc).map (fun d => d.parameters.length) = some 0 := by decide +kernel
theorem hv_X3_append : yX3_append.cls = RX3 ∧ yX3_append.cls ≠ "java/lang/invoke/MethodHandle" ∧ yX3_append.cls ≠ "java/lang/invoke/VarHandle" ∧ (parseMethodDescriptor yX3_append.desc).map (fun d => d.parameters.length) = some 0 := by decide +kernel
theorem hv_X5_takeWord : yX5_takeWord.cls = RX5 ∧ yX5_takeWord.cls ≠ "java/lang/invoke/MethodHandle" ∧ yX5_takeWord.cls ≠ "java/lang/invoke/VarHandle" ∧ (parseMethodDescriptor yX5_takeWord.desc).map (fun d => d.parameters.length) = some 1 := by decide +kernel
theorem hv_X3_press : yX3_press.cls = RX3 ∧ yX3_press.cls ≠ "java/lang/invoke/MethodHandle" ∧ yX3_press.cls ≠ "java/lang/invoke/VarHandle" ∧ (parseMethodDescriptor yX3_press.desc).map (fun d => d.parameters.length) = some 2 := by decide +kernel
theorem hv_X4_readTube : yX4_readTube.cls = RX4 ∧ yX4_readTube.cls ≠ "java/lang/invoke/MethodHandle" ∧ yX4_readTube.cls ≠ "java/lang/invoke/VarHandle" ∧ (parseMethodDescriptor yX4_readTube.desc).map (fun d => d.parameters.length) = some 0 := by decide +kernel
theorem hv_X4_readLeg : yX4_readLeg.cls = RX4 ∧ yX4_readLeg.cls ≠ "java/lang/invoke/MethodHandle" ∧ yX4_readLeg.cls ≠ "java/lang/invoke/VarHandle" ∧ (parseMethodDescriptor yX4_readLeg.desc).map (fun d => d.parameters.length) = some 0 := by decide +kernel
theorem hv_X3_clear : yX3_clear.cls = RX3 ∧ yX3_clear.cls ≠ "java/lang/invoke/MethodHandle" ∧ yX3_clear.cls ≠ "java/lang/invoke/VarHandle" ∧ (parseMethodDescriptor yX3_clear.desc).map (fun d => d.parameters.length) = some 2 := by decide +kernel
theorem hv_X5_takeSign : yX5_takeSign.cls = RX5 ∧ yX5_takeSign.cls ≠ "java/lang/invoke/MethodHandle" ∧ yX5_takeSign.cls ≠ "java/lang/invoke/VarHandle" ∧ (parseMethodDescriptor yX5_takeSign.desc).map (fun d => d.parameters.length) = some 1 := by decide +kernel
theorem hv_X5_goesOn : yX5_goesOn.cls = RX5 ∧ yX5_goesOn.cls ≠ "java/lang/invoke/MethodHandle" ∧ yX5_goesOn.cls ≠ "java/lang/invoke/VarHandle" ∧ (parseMethodDescriptor yX5_goesOn.desc).map (fun d => d.parameters.length) = some 0 := by decide +kernel
theorem hv_X4_readClause : yX4_readClause.cls = RX4 ∧ yX4_readClause.cls ≠ "java/lang/invoke/MethodHandle" ∧ yX4_readClause.cls ≠ "java/lang/invoke/VarHandle" ∧ (parseMethodDescriptor yX4_readClause.desc).map (fun d => d.parameters.length) = some 0 := by decide +kernel
theorem hv_X2_factor : yX2_factor.cls = RX2 ∧ yX2_factor.cls ≠ "java/lang/invoke/MethodHandle" ∧ yX2_factor.cls ≠ "java/lang/invoke/VarHandle" ∧ (parseMethodDescriptor yX2_factor.desc).map (fun d => d.parameters.length) = some 1 := by decide +kernel
theorem hv_X2_conjunction : yX2_conjunction.cls = RX2 ∧ yX2_conjunction.cls ≠ "java/lang/invoke/MethodHandle" ∧ yX2_conjunction.cls ≠ "java/lang/invoke/VarHandle" ∧ (parseMethodDescriptor yX2_conjunction.desc).map (fun d => d.parameters.length) = some 1 := by decide +kernel
theorem hv_X2_propertyNamed : yX2_propertyNamed.cls = RX2 ∧ yX2_propertyNamed.cls ≠ "java/lang/invoke/MethodHandle" ∧ yX2_propertyNamed.cls ≠ "java/lang/invoke/VarHandle" ∧ (parseMethodDescriptor yX2_propertyNamed.desc).map (fun d => d.parameters.length) = some 0 := by decide +kernel
theorem hv_X3_numberOf : yX3_numberOf.cls = RX3 ∧ yX3_numberOf.cls ≠ "java/lang/invoke/MethodHandle" ∧ yX3_numberOf.cls ≠ "java/lang/invoke/VarHandle" ∧ (parseMethodDescriptor yX3_numberOf.desc).map (fun d => d.parameters.length) = some 2 := by decide +kernel
theorem hv_X2_operand : yX2_operand.cls = RX2 ∧ yX2_operand.cls ≠ "java/lang/invoke/MethodHandle" ∧ yX2_operand.cls ≠ "java/lang/invoke/VarHandle" ∧ (parseMethodDescriptor yX2_operand.desc).map (fun d => d.parameters.length) = some 0 := by decide +kernel
theorem hv_X2_valueFor : yX2_valueFor.cls = RX2 ∧ yX2_valueFor.cls ≠ "java/lang/invoke/MethodHandle" ∧ yX2_valueFor.cls ≠ "java/lang/invoke/VarHandle" ∧ (parseMethodDescriptor yX2_valueFor.desc).map (fun d => d.parameters.length) = some 2 := by decide +kernel
theorem hs_J6_compare_7cf53 : yJ6_compare_7cf53.cls ≠ "java/lang/invoke/MethodHandle" ∧ yJ6_compare_7cf53.cls ≠ "java/lang/invoke/VarHandle" ∧ (parseMethodDescriptor yJ6_compare_7cf53.desc).map (fun d => d.parameters.length) = some 2 := by decide +kernel
theorem hv_X2_test : yX2_test.cls = RX2 ∧ yX2_test.cls ≠ "java/lang/invoke/MethodHandle" ∧ yX2_test.cls ≠ "java/lang/invoke/VarHandle" ∧ (parseMethodDescriptor yX2_test.desc).map (fun d => d.parameters.length) = some 1 := by decide +kernel
theorem hv_X2_comparison : yX2_comparison.cls = RX2 ∧ yX2_comparison.cls ≠ "java/lang/invoke/MethodHandle" ∧ yX2_comparison.cls ≠ "java/lang/invoke/VarHandle" ∧ (parseMethodDescriptor yX2_comparison.desc).map (fun d => d.parameters.length) = some 0 := by decide +kernel
theorem hv_X5_hasRoomFor : yX5_hasRoomFor.cls = RX5 ∧ yX5_hasRoomFor.cls ≠ "java/lang/invoke/MethodHandle" ∧ yX5_hasRoomFor.cls ≠ "java/lang/invoke/VarHandle" ∧ (parseMethodDescriptor yX5_hasRoomFor.desc).map (fun d => d.parameters.length) = some 1 := by decide +kernel
theorem hv_X5_append : yX5_append.cls = RX5 ∧ yX5_append.cls ≠ "java/lang/invoke/MethodHandle" ∧ yX5_append.cls ≠ "java/lang/invoke/VarHandle" ∧ (parseMethodDescriptor yX5_append.desc).map (fun d => d.parameters.length) = some 1 := by decide +kernel
theorem hs_X7_requireWithin : yX7_requireWithin.cls ≠ "java/lang/invoke/MethodHandle" ∧ yX7_requireWithin.cls ≠ "java/lang/invoke/VarHandle" ∧ (parseMethodDescriptor yX7_requireWithin.desc).map (fun d => d.parameters.length) = some 3 := by decide +kernel
theorem hv_X5_begin : yX5_begin.cls = RX5 ∧ yX5_begin.cls ≠ "java/lang/invoke/MethodHandle" ∧ yX5_begin.cls ≠ "java/lang/invoke/VarHandle" ∧ (parseMethodDescriptor yX5_begin.desc).map (fun d => d.parameters.length) = some 1 := by decide +kernel
theorem hv_X3_countInState : yX3_countInState.cls = RX3 ∧ yX3_countInState.cls ≠ "java/lang/invoke/MethodHandle" ∧ yX3_countInState.cls ≠ "java/lang/invoke/VarHandle" ∧ (parseMethodDescriptor yX3_countInState.desc).map (fun d => d.parameters.length) = some 1 := by decide +kernel
theorem hv_X3_countInLeg : yX3_countInLeg.cls = RX3 ∧ yX3_countInLeg.cls ≠ "java/lang/invoke/MethodHandle" ∧ yX3_countInLeg.cls ≠ "java/lang/invoke/VarHandle" ∧ (parseMethodDescriptor yX3_countInLeg.desc).map (fun d => d.parameters.length) = some 1 := by decide +kernel
theorem hv_X7_requirePoint : yX7_requirePoint.cls = RX7 ∧ yX7_requirePoint.cls ≠ "java/lang/invoke/MethodHandle" ∧ yX7_requirePoint.cls ≠ "java/lang/invoke/VarHandle" ∧ (parseMethodDescriptor yX7_requirePoint.desc).map (fun d => d.parameters.length) = some 1 := by decide +kernel
theorem hs_X7_requireLeg : yX7_requireLeg.cls ≠ "java/lang/invoke/MethodHandle" ∧ yX7_requireLeg.cls ≠ "java/lang/invoke/VarHandle" ∧ (parseMethodDescriptor yX7_requireLeg.desc).map (fun d => d.parameters.length) = some 1 := by decide +kernel
theorem hv_X7_requireTube : yX7_requireTube.cls = RX7 ∧ yX7_requireTube.cls ≠ "java/lang/invoke/MethodHandle" ∧ yX7_requireTube.cls ≠ "java/lang/invoke/VarHandle" ∧ (parseMethodDescriptor yX7_requireTube.desc).map (fun d => d.parameters.length) = some 1 := by decide +kernel
theorem hv_X3_wrongBy : yX3_wrongBy.cls = RX3 ∧ yX3_wrongBy.cls ≠ "java/lang/invoke/MethodHandle" ∧ yX3_wrongBy.cls ≠ "java/lang/invoke/VarHandle" ∧ (parseMethodDescriptor yX3_wrongBy.desc).map (fun d => d.parameters.length) = some 1 := by decide +kernel
theorem hv_X3_differenceOf : yX3_differenceOf.cls = RX3 ∧ yX3_differenceOf.cls ≠ "java/lang/invoke/MethodHandle" ∧ yX3_differenceOf.cls ≠ "java/lang/invoke/VarHandle" ∧ (parseMethodDescriptor yX3_differenceOf.desc).map (fun d => d.parameters.length) = some 2 := by decide +kernel
theorem hv_X3_settle : yX3_settle.cls = RX3 ∧ yX3_settle.cls ≠ "java/lang/invoke/MethodHandle" ∧ yX3_settle.cls ≠ "java/lang/invoke/VarHandle" ∧ (parseMethodDescriptor yX3_settle.desc).map (fun d => d.parameters.length) = some 0 := by decide +kernel
theorem hv_X7_tryPressure : yX7_tryPressure.cls = RX7 ∧ yX7_tryPressure.cls ≠ "java/lang/invoke/MethodHandle" ∧ yX7_tryPressure.cls ≠ "java/lang/invoke/VarHandle" ∧ (parseMethodDescriptor yX7_tryPressure.desc).map (fun d => d.parameters.length) = some 2 := by decide +kernel
theorem hv_X0_keep : yX0_keep.cls = RX0 ∧ yX0_keep.cls ≠ "java/lang/invoke/MethodHandle" ∧ yX0_keep.cls ≠ "java/lang/invoke/VarHandle" ∧ (parseMethodDescriptor yX0_keep.desc).map (fun d => d.parameters.length) = some 1 := by decide +kernel
theorem hv_X3_remove : yX3_remove.cls = RX3 ∧ yX3_remove.cls ≠ "java/lang/invoke/MethodHandle" ∧ yX3_remove.cls ≠ "java/lang/invoke/VarHandle" ∧ (parseMethodDescriptor yX3_remove.desc).map (fun d => d.parameters.length) = some 1 := by decide +kernel
theorem hv_J4_setLength_d00df : yJ4_setLength_d00df.cls = RJ4 ∧ yJ4_setLength_d00df.cls ≠ "java/lang/invoke/MethodHandle" ∧ yJ4_setLength_d00df.cls ≠ "java/lang/invoke/VarHandle" ∧ (parseMethodDescriptor yJ4_setLength_d00df.desc).map (fun d => d.parameters.length) = some 1 := by decide +kernel
theorem hv_J4_append_bf812 : yJ4_append_bf812.cls = RJ4 ∧ yJ4_append_bf812.cls ≠ "java/lang/invoke/MethodHandle" ∧ yJ4_append_bf812.cls ≠ "java/lang/invoke/VarHandle" ∧ (parseMethodDescriptor yJ4_append_bf812.desc).map (fun d => d.parameters.length) = some 1 := by decide +kernel
theorem hv_J4_append_cf468 : yJ4_append_cf468.cls = RJ4 ∧ yJ4_append_cf468.cls ≠ "java/lang/invoke/MethodHandle" ∧ yJ4_append_cf468.cls ≠ "java/lang/invoke/VarHandle" ∧ (parseMethodDescriptor yJ4_append_cf468.desc).map (fun d => d.parameters.length) = some 1 := by decide +kernel
theorem hv_J4_append_15ec4 : yJ4_append_15ec4.cls = RJ4 ∧ yJ4_append_15ec4.cls ≠ "java/lang/invoke/MethodHandle" ∧ yJ4_append_15ec4.cls ≠ "java/lang/invoke/VarHandle" ∧ (parseMethodDescriptor yJ4_append_15ec4.desc).map (fun d => d.parameters.length) = some 1 := by decide +kernel
theorem hv_J4_length_8abf5 : yJ4_length_8abf5.cls = RJ4 ∧ yJ4_length_8abf5.cls ≠ "java/lang/invoke/MethodHandle" ∧ yJ4_length_8abf5.cls ≠ "java/lang/invoke/VarHandle" ∧ (parseMethodDescriptor yJ4_length_8abf5.desc).map (fun d => d.parameters.length) = some 0 := by decide +kernel
theorem hv_J4_charAt_5068e : yJ4_charAt_5068e.cls = RJ4 ∧ yJ4_charAt_5068e.cls ≠ "java/lang/invoke/MethodHandle" ∧ yJ4_charAt_5068e.cls ≠ "java/lang/invoke/VarHandle" ∧ (parseMethodDescriptor yJ4_charAt_5068e.desc).map (fun d => d.parameters.length) = some 1 := by decide +kernel
theorem hv_X0_takeBack : yX0_takeBack.cls = RX0 ∧ yX0_takeBack.cls ≠ "java/lang/invoke/MethodHandle" ∧ yX0_takeBack.cls ≠ "java/lang/invoke/VarHandle" ∧ (parseMethodDescriptor yX0_takeBack.desc).map (fun d => d.parameters.length) = some 1 := by decide +kernel
theorem hv_X0_clear : yX0_clear.cls = RX0 ∧ yX0_clear.cls ≠ "java/lang/invoke/MethodHandle" ∧ yX0_clear.cls ≠ "java/lang/invoke/VarHandle" ∧ (parseMethodDescriptor yX0_clear.desc).map (fun d => d.parameters.length) = some 0 := by decide +kernel
