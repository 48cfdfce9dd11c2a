/-! WORDS: those that the walks use, by their places -/
theorem q0 : Cond.selects RL yL_loads yL_loads ∈ lw_all := lw_q 0 (by decide +kernel) rfl
theorem q1 : Cond.selects RL yL_writes yL_writes ∈ lw_all := lw_q 1 (by decide +kernel) rfl
theorem q2 : Cond.selects RL yL_spaced yL_spaced ∈ lw_all := lw_q 2 (by decide +kernel) rfl
theorem q3 : Cond.selects RL yL_feeds yL_feeds ∈ lw_all := lw_q 3 (by decide +kernel) rfl
theorem q5 : Cond.selects RX5 yX5_byteAt yX5_byteAt ∈ lw_all := lw_q 5 (by decide +kernel) rfl
theorem q6 : Cond.selects RX4 yX4_readClause yX4_readClause ∈ lw_all := lw_q 6 (by decide +kernel) rfl
theorem q7 : Cond.selects RX4 yX4_readLeg yX4_readLeg ∈ lw_all := lw_q 7 (by decide +kernel) rfl
theorem q8 : Cond.selects RX4 yX4_readTube yX4_readTube ∈ lw_all := lw_q 8 (by decide +kernel) rfl
theorem q9 : Cond.selects RX3 yX3_settleLeg yX3_settleLeg ∈ lw_all := lw_q 9 (by decide +kernel) rfl
theorem q10 : Cond.selects RX3 yX3_greatestLevel yX3_greatestLevel ∈ lw_all := lw_q 10 (by decide +kernel) rfl
theorem q11 : Cond.selects RX3 yX3_fullVolumes yX3_fullVolumes ∈ lw_all := lw_q 11 (by decide +kernel) rfl
theorem q12 : Cond.selects RX3 yX3_breakTubes yX3_breakTubes ∈ lw_all := lw_q 12 (by decide +kernel) rfl
theorem q13 : Cond.selects RX7 yX7_requireTube yX7_requireTube ∈ lw_all := lw_q 13 (by decide +kernel) rfl
theorem q14 : Cond.selects RX7 yX7_requirePoint yX7_requirePoint ∈ lw_all := lw_q 14 (by decide +kernel) rfl
theorem q15 : Cond.initialized RL ∈ lw_all := lw_q 15 (by decide +kernel) rfl
theorem q16 : Cond.initialized RX7 ∈ lw_all := lw_q 16 (by decide +kernel) rfl
theorem q17 : Cond.initialized RX3 ∈ lw_all := lw_q 17 (by decide +kernel) rfl
theorem q18 : Cond.initialized RX1 ∈ lw_all := lw_q 18 (by decide +kernel) rfl
theorem q19 : Cond.initialized RX6 ∈ lw_all := lw_q 19 (by decide +kernel) rfl
theorem q20 : Cond.initialized RX0 ∈ lw_all := lw_q 20 (by decide +kernel) rfl
theorem q21 : Cond.initialized RX5 ∈ lw_all := lw_q 21 (by decide +kernel) rfl
theorem q22 : Cond.initialized RJ5 ∈ lw_all := lw_q 22 (by decide +kernel) rfl
theorem q23 : Cond.initialized RJ4 ∈ lw_all := lw_q 23 (by decide +kernel) rfl
theorem q24 : Cond.initialized RJ0 ∈ lw_all := lw_q 24 (by decide +kernel) rfl
theorem q26 : Cond.initialized RJ1 ∈ lw_all := lw_q 26 (by decide +kernel) rfl
theorem q27 : Cond.initialized RJ3 ∈ lw_all := lw_q 27 (by decide +kernel) rfl
theorem q32 : Cond.initialized "java/lang/Math" ∈ lw_all := lw_q 32 (by decide +kernel) rfl
theorem q33 : Cond.initialized RX4 ∈ lw_all := lw_q 33 (by decide +kernel) rfl
theorem q35 : Cond.classLink RL 37 RX7 ∈ lw_all := lw_q 35 (by decide +kernel) rfl
theorem q36 : Cond.instantiable RX7 7 ∈ lw_all := lw_q 36 (by decide +kernel) rfl
theorem q37 : Cond.methodLink RL 119 yX7_init ∈ lw_all := lw_q 37 (by decide +kernel) rfl
theorem q38 : Cond.instanceMethod yX7_init ∈ lw_all := lw_q 38 (by decide +kernel) rfl
theorem q39 : Cond.code yX7_init cX7_init 1 none ∈ lw_all := lw_q 39 (by decide +kernel) rfl
theorem q40 : Cond.methodLink RX7 1 Lib.objectInit ∈ lw_all := lw_q 40 (by decide +kernel) rfl
theorem q41 : Cond.instanceMethod Lib.objectInit ∈ lw_all := lw_q 41 (by decide +kernel) rfl
theorem q42 : Cond.code Lib.objectInit ⟨#[0xb1]⟩ 1 none ∈ lw_all := lw_q 42 (by decide +kernel) rfl
theorem q43 : Cond.classLink RX7 7 RX3 ∈ lw_all := lw_q 43 (by decide +kernel) rfl
theorem q44 : Cond.instantiable RX3 8 ∈ lw_all := lw_q 44 (by decide +kernel) rfl
theorem q45 : Cond.methodLink RX7 9 yX3_init ∈ lw_all := lw_q 45 (by decide +kernel) rfl
theorem q46 : Cond.instanceMethod yX3_init ∈ lw_all := lw_q 46 (by decide +kernel) rfl
theorem q47 : Cond.code yX3_init cX3_init 2 none ∈ lw_all := lw_q 47 (by decide +kernel) rfl
theorem q48 : Cond.methodLink RX3 3 Lib.objectInit ∈ lw_all := lw_q 48 (by decide +kernel) rfl
theorem q49 : Cond.classLink RX3 15 RX1 ∈ lw_all := lw_q 49 (by decide +kernel) rfl
theorem q50 : Cond.instantiable RX1 7 ∈ lw_all := lw_q 50 (by decide +kernel) rfl
theorem q52 : Cond.instanceMethod yX1_init ∈ lw_all := lw_q 52 (by decide +kernel) rfl
theorem q53 : Cond.code yX1_init cX1_init 1 none ∈ lw_all := lw_q 53 (by decide +kernel) rfl
theorem q54 : Cond.methodLink RX1 1 Lib.objectInit ∈ lw_all := lw_q 54 (by decide +kernel) rfl
theorem q55 : Cond.fieldLink RX1 26 "SlantGauges$Leg" "density" "I" ∈ lw_all := lw_q 55 (by decide +kernel) rfl
theorem q56 : Cond.fieldLink RX7 134 "SlantGauges$Leg" "density" "I" ∈ lw_all := lw_q 56 (by decide +kernel) rfl
theorem q57 : Cond.fieldLink RX3 110 "SlantGauges$Leg" "density" "I" ∈ lw_all := lw_q 57 (by decide +kernel) rfl
theorem q58 : Cond.fieldLink RX1 30 "SlantGauges$Leg" "area" "I" ∈ lw_all := lw_q 58 (by decide +kernel) rfl
theorem q59 : Cond.fieldLink RX7 139 "SlantGauges$Leg" "area" "I" ∈ lw_all := lw_q 59 (by decide +kernel) rfl
theorem q60 : Cond.fieldLink RX3 136 "SlantGauges$Leg" "area" "I" ∈ lw_all := lw_q 60 (by decide +kernel) rfl
theorem q61 : Cond.fieldLink RX1 33 "SlantGauges$Leg" "curve" "I" ∈ lw_all := lw_q 61 (by decide +kernel) rfl
theorem q62 : Cond.fieldLink RX7 142 "SlantGauges$Leg" "curve" "I" ∈ lw_all := lw_q 62 (by decide +kernel) rfl
theorem q63 : Cond.fieldLink RX3 119 "SlantGauges$Leg" "curve" "I" ∈ lw_all := lw_q 63 (by decide +kernel) rfl
theorem q64 : Cond.fieldLink RX1 13 "SlantGauges$Leg" "stock" "J" ∈ lw_all := lw_q 64 (by decide +kernel) rfl
theorem q65 : Cond.fieldLink RX7 155 "SlantGauges$Leg" "stock" "J" ∈ lw_all := lw_q 65 (by decide +kernel) rfl
theorem q66 : Cond.fieldLink RX3 139 "SlantGauges$Leg" "stock" "J" ∈ lw_all := lw_q 66 (by decide +kernel) rfl
theorem q67 : Cond.fieldLink RX1 17 "SlantGauges$Leg" "lost" "J" ∈ lw_all := lw_q 67 (by decide +kernel) rfl
theorem q68 : Cond.fieldLink RX7 158 "SlantGauges$Leg" "lost" "J" ∈ lw_all := lw_q 68 (by decide +kernel) rfl
theorem q69 : Cond.fieldLink RX3 167 "SlantGauges$Leg" "lost" "J" ∈ lw_all := lw_q 69 (by decide +kernel) rfl
theorem q70 : Cond.fieldLink RX1 20 "SlantGauges$Leg" "refilled" "J" ∈ lw_all := lw_q 70 (by decide +kernel) rfl
theorem q71 : Cond.fieldLink RX7 161 "SlantGauges$Leg" "refilled" "J" ∈ lw_all := lw_q 71 (by decide +kernel) rfl
theorem q72 : Cond.fieldLink RX1 23 "SlantGauges$Leg" "level" "J" ∈ lw_all := lw_q 72 (by decide +kernel) rfl
theorem q73 : Cond.fieldLink RX7 145 "SlantGauges$Leg" "level" "J" ∈ lw_all := lw_q 73 (by decide +kernel) rfl
theorem q74 : Cond.fieldLink RX3 106 "SlantGauges$Leg" "level" "J" ∈ lw_all := lw_q 74 (by decide +kernel) rfl
theorem q90 : Cond.arrayClass .int ∈ lw_all := lw_q 90 (by decide +kernel) rfl
theorem q91 : Cond.classLink RX3 25 RX6 ∈ lw_all := lw_q 91 (by decide +kernel) rfl
theorem q93 : Cond.instantiable RX6 10 ∈ lw_all := lw_q 93 (by decide +kernel) rfl
theorem q95 : Cond.instanceMethod yX6_init ∈ lw_all := lw_q 95 (by decide +kernel) rfl
theorem q96 : Cond.code yX6_init cX6_init 1 none ∈ lw_all := lw_q 96 (by decide +kernel) rfl
theorem q97 : Cond.methodLink RX6 3 Lib.objectInit ∈ lw_all := lw_q 97 (by decide +kernel) rfl
theorem q98 : Cond.fieldLink RX6 9 "SlantGauges$Tube" "leg" "I" ∈ lw_all := lw_q 98 (by decide +kernel) rfl
theorem q99 : Cond.fieldLink RX3 68 "SlantGauges$Tube" "leg" "I" ∈ lw_all := lw_q 99 (by decide +kernel) rfl
theorem q100 : Cond.fieldLink RX6 15 "SlantGauges$Tube" "point" "I" ∈ lw_all := lw_q 100 (by decide +kernel) rfl
theorem q101 : Cond.fieldLink RX3 71 "SlantGauges$Tube" "point" "I" ∈ lw_all := lw_q 101 (by decide +kernel) rfl
theorem q102 : Cond.fieldLink RX6 24 "SlantGauges$Tube" "bore" "I" ∈ lw_all := lw_q 102 (by decide +kernel) rfl
theorem q103 : Cond.fieldLink RX3 74 "SlantGauges$Tube" "bore" "I" ∈ lw_all := lw_q 103 (by decide +kernel) rfl
theorem q104 : Cond.fieldLink RX6 27 "SlantGauges$Tube" "slant" "I" ∈ lw_all := lw_q 104 (by decide +kernel) rfl
theorem q105 : Cond.fieldLink RX3 77 "SlantGauges$Tube" "slant" "I" ∈ lw_all := lw_q 105 (by decide +kernel) rfl
theorem q106 : Cond.fieldLink RX7 226 "SlantGauges$Tube" "slant" "I" ∈ lw_all := lw_q 106 (by decide +kernel) rfl
theorem q107 : Cond.fieldLink RX6 30 "SlantGauges$Tube" "length" "I" ∈ lw_all := lw_q 107 (by decide +kernel) rfl
theorem q108 : Cond.fieldLink RX3 80 "SlantGauges$Tube" "length" "I" ∈ lw_all := lw_q 108 (by decide +kernel) rfl
theorem q109 : Cond.fieldLink RX6 18 "SlantGauges$Tube" "mark" "I" ∈ lw_all := lw_q 109 (by decide +kernel) rfl
theorem q110 : Cond.fieldLink RX4 110 "SlantGauges$Tube" "mark" "I" ∈ lw_all := lw_q 110 (by decide +kernel) rfl
theorem q111 : Cond.fieldLink RX3 83 "SlantGauges$Tube" "mark" "I" ∈ lw_all := lw_q 111 (by decide +kernel) rfl
theorem q112 : Cond.fieldLink RX7 233 "SlantGauges$Tube" "mark" "I" ∈ lw_all := lw_q 112 (by decide +kernel) rfl
theorem q113 : Cond.fieldLink RX6 21 "SlantGauges$Tube" "state" "I" ∈ lw_all := lw_q 113 (by decide +kernel) rfl
theorem q114 : Cond.fieldLink RX3 65 "SlantGauges$Tube" "state" "I" ∈ lw_all := lw_q 114 (by decide +kernel) rfl
theorem q115 : Cond.fieldLink RX7 179 "SlantGauges$Tube" "state" "I" ∈ lw_all := lw_q 115 (by decide +kernel) rfl
theorem q116 : Cond.fieldLink RX6 41 "SlantGauges$Tube" "pull" "I" ∈ lw_all := lw_q 116 (by decide +kernel) rfl
theorem q117 : Cond.fieldLink RX3 93 "SlantGauges$Tube" "pull" "I" ∈ lw_all := lw_q 117 (by decide +kernel) rfl
theorem q118 : Cond.fieldLink RX6 44 "SlantGauges$Tube" "meniscus" "I" ∈ lw_all := lw_q 118 (by decide +kernel) rfl
theorem q119 : Cond.fieldLink RX3 96 "SlantGauges$Tube" "meniscus" "I" ∈ lw_all := lw_q 119 (by decide +kernel) rfl
theorem q120 : Cond.fieldLink RX6 47 "SlantGauges$Tube" "column" "I" ∈ lw_all := lw_q 120 (by decide +kernel) rfl
theorem q121 : Cond.fieldLink RX3 86 "SlantGauges$Tube" "column" "I" ∈ lw_all := lw_q 121 (by decide +kernel) rfl
theorem q122 : Cond.fieldLink RX7 199 "SlantGauges$Tube" "column" "I" ∈ lw_all := lw_q 122 (by decide +kernel) rfl
theorem q144 : Cond.fieldLink RX3 36 "SlantGauges$Row" "points" "I" ∈ lw_all := lw_q 144 (by decide +kernel) rfl
theorem q145 : Cond.fieldLink RX4 65 "SlantGauges$Row" "points" "I" ∈ lw_all := lw_q 145 (by decide +kernel) rfl
theorem q146 : Cond.fieldLink RX7 102 "SlantGauges$Row" "points" "I" ∈ lw_all := lw_q 146 (by decide +kernel) rfl
theorem q147 : Cond.fieldLink RX3 40 "SlantGauges$Row" "reference" "I" ∈ lw_all := lw_q 147 (by decide +kernel) rfl
theorem q148 : Cond.fieldLink RX7 105 "SlantGauges$Row" "reference" "I" ∈ lw_all := lw_q 148 (by decide +kernel) rfl
theorem q149 : Cond.fieldLink RX3 43 "SlantGauges$Row" "tubeCount" "I" ∈ lw_all := lw_q 149 (by decide +kernel) rfl
theorem q150 : Cond.fieldLink RX4 89 "SlantGauges$Row" "tubeCount" "I" ∈ lw_all := lw_q 150 (by decide +kernel) rfl
theorem q151 : Cond.fieldLink RX7 108 "SlantGauges$Row" "tubeCount" "I" ∈ lw_all := lw_q 151 (by decide +kernel) rfl
theorem q152 : Cond.fieldLink RX3 9 "SlantGauges$Row" "pressures" "[I" ∈ lw_all := lw_q 152 (by decide +kernel) rfl
theorem q153 : Cond.fieldLink RX3 18 "SlantGauges$Row" "left" "LSlantGauges$Leg;" ∈ lw_all := lw_q 153 (by decide +kernel) rfl
theorem q154 : Cond.fieldLink RX3 22 "SlantGauges$Row" "right" "LSlantGauges$Leg;" ∈ lw_all := lw_q 154 (by decide +kernel) rfl
theorem q155 : Cond.fieldLink RX3 27 "SlantGauges$Row" "tubes" "[LSlantGauges$Tube;" ∈ lw_all := lw_q 155 (by decide +kernel) rfl
theorem q156 : Cond.fieldLink RX3 32 "SlantGauges$Row" "spare" "LSlantGauges$Tube;" ∈ lw_all := lw_q 156 (by decide +kernel) rfl
theorem q174 : Cond.classLink RX7 22 RX0 ∈ lw_all := lw_q 174 (by decide +kernel) rfl
theorem q175 : Cond.instantiable RX0 3 ∈ lw_all := lw_q 175 (by decide +kernel) rfl
theorem q176 : Cond.methodLink RX7 24 yX0_init ∈ lw_all := lw_q 176 (by decide +kernel) rfl
theorem q177 : Cond.instanceMethod yX0_init ∈ lw_all := lw_q 177 (by decide +kernel) rfl
theorem q178 : Cond.code yX0_init cX0_init 2 none ∈ lw_all := lw_q 178 (by decide +kernel) rfl
theorem q179 : Cond.methodLink RX0 3 Lib.objectInit ∈ lw_all := lw_q 179 (by decide +kernel) rfl
theorem q180 : Cond.classLink RX0 9 RX3 ∈ lw_all := lw_q 180 (by decide +kernel) rfl
theorem q182 : Cond.methodLink RX0 17 yX3_init ∈ lw_all := lw_q 182 (by decide +kernel) rfl
theorem q183 : Cond.fieldLink RX0 11 "SlantGauges$History" "rows" "[LSlantGauges$Row;" ∈ lw_all := lw_q 183 (by decide +kernel) rfl
theorem q184 : Cond.fieldLink RX0 18 "SlantGauges$History" "oldest" "I" ∈ lw_all := lw_q 184 (by decide +kernel) rfl
theorem q185 : Cond.fieldLink RX0 22 "SlantGauges$History" "count" "I" ∈ lw_all := lw_q 185 (by decide +kernel) rfl
theorem q193 : Cond.classLink RX7 29 RX5 ∈ lw_all := lw_q 193 (by decide +kernel) rfl
theorem q194 : Cond.instantiable RX5 9 ∈ lw_all := lw_q 194 (by decide +kernel) rfl
theorem q196 : Cond.instanceMethod yX5_init ∈ lw_all := lw_q 196 (by decide +kernel) rfl
theorem q197 : Cond.code yX5_init cX5_init 1 none ∈ lw_all := lw_q 197 (by decide +kernel) rfl
theorem q198 : Cond.methodLink RX5 3 Lib.objectInit ∈ lw_all := lw_q 198 (by decide +kernel) rfl
theorem q199 : Cond.fieldLink RX5 9 "SlantGauges$Tokens" "bytes" "[B" ∈ lw_all := lw_q 199 (by decide +kernel) rfl
theorem q200 : Cond.fieldLink RX5 19 "SlantGauges$Tokens" "filled" "I" ∈ lw_all := lw_q 200 (by decide +kernel) rfl
theorem q201 : Cond.fieldLink RX7 56 "SlantGauges$Tokens" "filled" "I" ∈ lw_all := lw_q 201 (by decide +kernel) rfl
theorem q202 : Cond.fieldLink RX5 28 "SlantGauges$Tokens" "end" "I" ∈ lw_all := lw_q 202 (by decide +kernel) rfl
theorem q203 : Cond.fieldLink RX5 31 "SlantGauges$Tokens" "next" "I" ∈ lw_all := lw_q 203 (by decide +kernel) rfl
theorem q204 : Cond.fieldLink RX5 44 "SlantGauges$Tokens" "start" "I" ∈ lw_all := lw_q 204 (by decide +kernel) rfl
theorem q205 : Cond.fieldLink RX5 50 "SlantGauges$Tokens" "kind" "I" ∈ lw_all := lw_q 205 (by decide +kernel) rfl
theorem q206 : Cond.fieldLink RX5 47 "SlantGauges$Tokens" "number" "I" ∈ lw_all := lw_q 206 (by decide +kernel) rfl
theorem q207 : Cond.fieldLink RX7 78 "SlantGauges$Tokens" "errorCode" "I" ∈ lw_all := lw_q 207 (by decide +kernel) rfl
theorem q208 : Cond.fieldLink RX5 34 "SlantGauges$Tokens" "errorCode" "I" ∈ lw_all := lw_q 208 (by decide +kernel) rfl
theorem q209 : Cond.fieldLink RX5 15 "SlantGauges$Tokens" "errorAt" "I" ∈ lw_all := lw_q 209 (by decide +kernel) rfl
theorem q210 : Cond.fieldLink RX7 99 "SlantGauges$Tokens" "errorAt" "I" ∈ lw_all := lw_q 210 (by decide +kernel) rfl
theorem q230 : Cond.arrayClass .byte ∈ lw_all := lw_q 230 (by decide +kernel) rfl
theorem q231 : Cond.classLink RX7 36 RJ4 ∈ lw_all := lw_q 231 (by decide +kernel) rfl
theorem q232 : Cond.instantiable RJ4 4 ∈ lw_all := lw_q 232 (by decide +kernel) rfl
theorem q233 : Cond.methodLink RX7 38 yJ4_init_da8c8 ∈ lw_all := lw_q 233 (by decide +kernel) rfl
theorem q234 : Cond.instanceMethod yJ4_init_da8c8 ∈ lw_all := lw_q 234 (by decide +kernel) rfl
theorem q235 : Cond.code yJ4_init_da8c8 cJ4_init_da8c8 1 none ∈ lw_all := lw_q 235 (by decide +kernel) rfl
theorem q236 : Cond.methodLink RJ4 1 yJ5_init_d00df ∈ lw_all := lw_q 236 (by decide +kernel) rfl
theorem q237 : Cond.instanceMethod yJ5_init_d00df ∈ lw_all := lw_q 237 (by decide +kernel) rfl
theorem q238 : Cond.code yJ5_init_d00df cJ5_init_d00df 2 none ∈ lw_all := lw_q 238 (by decide +kernel) rfl
theorem q239 : Cond.methodLink RJ5 3 Lib.objectInit ∈ lw_all := lw_q 239 (by decide +kernel) rfl
theorem q240 : Cond.fieldLink RJ5 18 "java/lang/String" "COMPACT_STRINGS" "Z" ∈ lw_all := lw_q 240 (by decide +kernel) rfl
theorem q249 : Cond.fieldLink RJ5 15 "java/lang/AbstractStringBuilder" "value" "[B" ∈ lw_all := lw_q 249 (by decide +kernel) rfl
theorem q250 : Cond.fieldLink RJ5 22 "java/lang/AbstractStringBuilder" "coder" "B" ∈ lw_all := lw_q 250 (by decide +kernel) rfl
theorem q260 : Cond.constant RX7 43 (50000) ∈ lw_all := lw_q 260 (by decide +kernel) rfl
theorem q261 : Cond.methodLink RX7 44 yX3_clear ∈ lw_all := lw_q 261 (by decide +kernel) rfl
theorem q262 : Cond.instanceMethod yX3_clear ∈ lw_all := lw_q 262 (by decide +kernel) rfl
theorem q263 : Cond.selects RX3 yX3_clear yX3_clear ∈ lw_all := lw_q 263 (by decide +kernel) rfl
theorem q264 : Cond.code yX3_clear cX3_clear 4 none ∈ lw_all := lw_q 264 (by decide +kernel) rfl
theorem q265 : Cond.constant RX3 46 (50000) ∈ lw_all := lw_q 265 (by decide +kernel) rfl
theorem q266 : Cond.methodLink RX3 47 yX1_clear ∈ lw_all := lw_q 266 (by decide +kernel) rfl
theorem q267 : Cond.instanceMethod yX1_clear ∈ lw_all := lw_q 267 (by decide +kernel) rfl
theorem q268 : Cond.selects RX1 yX1_clear yX1_clear ∈ lw_all := lw_q 268 (by decide +kernel) rfl
theorem q269 : Cond.code yX1_clear cX1_clear 1 none ∈ lw_all := lw_q 269 (by decide +kernel) rfl
theorem q270 : Cond.methodLink RX1 7 yX1_liquid ∈ lw_all := lw_q 270 (by decide +kernel) rfl
theorem q271 : Cond.instanceMethod yX1_liquid ∈ lw_all := lw_q 271 (by decide +kernel) rfl
theorem q272 : Cond.selects RX1 yX1_liquid yX1_liquid ∈ lw_all := lw_q 272 (by decide +kernel) rfl
theorem q273 : Cond.code yX1_liquid cX1_liquid 4 none ∈ lw_all := lw_q 273 (by decide +kernel) rfl
theorem q274 : Cond.fieldLink RX7 10 "SlantGauges" "current" "LSlantGauges$Row;" ∈ lw_all := lw_q 274 (by decide +kernel) rfl
theorem q275 : Cond.fieldLink RX7 16 "SlantGauges" "trial" "LSlantGauges$Row;" ∈ lw_all := lw_q 275 (by decide +kernel) rfl
theorem q276 : Cond.fieldLink RX7 19 "SlantGauges" "snapshot" "LSlantGauges$Row;" ∈ lw_all := lw_q 276 (by decide +kernel) rfl
theorem q277 : Cond.fieldLink RX7 25 "SlantGauges" "history" "LSlantGauges$History;" ∈ lw_all := lw_q 277 (by decide +kernel) rfl
theorem q278 : Cond.fieldLink RX7 32 "SlantGauges" "tokens" "LSlantGauges$Tokens;" ∈ lw_all := lw_q 278 (by decide +kernel) rfl
theorem q279 : Cond.fieldLink RX7 39 "SlantGauges" "formatted" "Ljava/lang/StringBuilder;" ∈ lw_all := lw_q 279 (by decide +kernel) rfl
theorem q280 : Cond.fieldLink RX7 91 "SlantGauges" "snapshotTaken" "Z" ∈ lw_all := lw_q 280 (by decide +kernel) rfl
theorem q296 : Cond.classLink RL 8 RL ∈ lw_all := lw_q 296 (by decide +kernel) rfl
theorem q297 : Cond.instantiable RL 2 ∈ lw_all := lw_q 297 (by decide +kernel) rfl
theorem q298 : Cond.methodLink RL 118 yL_init ∈ lw_all := lw_q 298 (by decide +kernel) rfl
theorem q299 : Cond.instanceMethod yL_init ∈ lw_all := lw_q 299 (by decide +kernel) rfl
theorem q300 : Cond.code yL_init cL_init 1 none ∈ lw_all := lw_q 300 (by decide +kernel) rfl
theorem q301 : Cond.methodLink RL 1 Lib.objectInit ∈ lw_all := lw_q 301 (by decide +kernel) rfl
theorem q302 : Cond.fieldLink RL 7 "SlantGaugesLaw" "text" "[I" ∈ lw_all := lw_q 302 (by decide +kernel) rfl
theorem q303 : Cond.fieldLink RL 19 "SlantGaugesLaw" "size" "I" ∈ lw_all := lw_q 303 (by decide +kernel) rfl
theorem q309 : Cond.methodLink RL 120 yL_loads ∈ lw_all := lw_q 309 (by decide +kernel) rfl
theorem q311 : Cond.instanceMethod yL_loads ∈ lw_all := lw_q 311 (by decide +kernel) rfl
theorem q312 : Cond.code yL_loads cL_loads 8 (some .boolean) ∈ lw_all := lw_q 312 (by decide +kernel) rfl
theorem q313 : Cond.methodLink RL 42 yL_cell ∈ lw_all := lw_q 313 (by decide +kernel) rfl
theorem q314 : Cond.static yL_cell ∈ lw_all := lw_q 314 (by decide +kernel) rfl
theorem q315 : Cond.code yL_cell cL_cell 2 (some .int) ∈ lw_all := lw_q 315 (by decide +kernel) rfl
theorem q316 : Cond.constant RL 35 (1073741823) ∈ lw_all := lw_q 316 (by decide +kernel) rfl
theorem q318 : Cond.methodLink RL 31 yL_writes ∈ lw_all := lw_q 318 (by decide +kernel) rfl
theorem q320 : Cond.instanceMethod yL_writes ∈ lw_all := lw_q 320 (by decide +kernel) rfl
theorem q321 : Cond.code yL_writes cL_writes 3 none ∈ lw_all := lw_q 321 (by decide +kernel) rfl
theorem q322 : Cond.methodLink RL 13 yJ0_length_8abf5 ∈ lw_all := lw_q 322 (by decide +kernel) rfl
theorem q323 : Cond.instanceMethod yJ0_length_8abf5 ∈ lw_all := lw_q 323 (by decide +kernel) rfl
theorem q324 : Cond.selects RJ0 yJ0_length_8abf5 yJ0_length_8abf5 ∈ lw_all := lw_q 324 (by decide +kernel) rfl
theorem q325 : Cond.code yJ0_length_8abf5 cJ0_length_8abf5 1 (some .int) ∈ lw_all := lw_q 325 (by decide +kernel) rfl
theorem q326 : Cond.methodLink RJ0 335 yJ0_coder_7d493 ∈ lw_all := lw_q 326 (by decide +kernel) rfl
theorem q327 : Cond.instanceMethod yJ0_coder_7d493 ∈ lw_all := lw_q 327 (by decide +kernel) rfl
theorem q328 : Cond.selects RJ0 yJ0_coder_7d493 yJ0_coder_7d493 ∈ lw_all := lw_q 328 (by decide +kernel) rfl
theorem q329 : Cond.code yJ0_coder_7d493 cJ0_coder_7d493 1 (some .byte) ∈ lw_all := lw_q 329 (by decide +kernel) rfl
theorem q330 : Cond.fieldLink RJ0 38 "java/lang/String" "COMPACT_STRINGS" "Z" ∈ lw_all := lw_q 330 (by decide +kernel) rfl
theorem q331 : Cond.methodLink RL 23 yJ0_charAt_5068e ∈ lw_all := lw_q 331 (by decide +kernel) rfl
theorem q332 : Cond.instanceMethod yJ0_charAt_5068e ∈ lw_all := lw_q 332 (by decide +kernel) rfl
theorem q333 : Cond.selects RJ0 yJ0_charAt_5068e yJ0_charAt_5068e ∈ lw_all := lw_q 333 (by decide +kernel) rfl
theorem q334 : Cond.code yJ0_charAt_5068e cJ0_charAt_5068e 2 (some .char) ∈ lw_all := lw_q 334 (by decide +kernel) rfl
theorem q335 : Cond.methodLink RJ0 492 yJ0_isLatin1_aae02 ∈ lw_all := lw_q 335 (by decide +kernel) rfl
theorem q336 : Cond.instanceMethod yJ0_isLatin1_aae02 ∈ lw_all := lw_q 336 (by decide +kernel) rfl
theorem q337 : Cond.selects RJ0 yJ0_isLatin1_aae02 yJ0_isLatin1_aae02 ∈ lw_all := lw_q 337 (by decide +kernel) rfl
theorem q338 : Cond.code yJ0_isLatin1_aae02 cJ0_isLatin1_aae02 1 (some .boolean) ∈ lw_all := lw_q 338 (by decide +kernel) rfl
theorem q339 : Cond.methodLink RJ0 495 yJ1_charAt_3b067 ∈ lw_all := lw_q 339 (by decide +kernel) rfl
theorem q340 : Cond.static yJ1_charAt_3b067 ∈ lw_all := lw_q 340 (by decide +kernel) rfl
theorem q341 : Cond.code yJ1_charAt_3b067 cJ1_charAt_3b067 2 (some .char) ∈ lw_all := lw_q 341 (by decide +kernel) rfl
theorem q342 : Cond.methodLink RJ1 9 yJ0_checkIndex_df160 ∈ lw_all := lw_q 342 (by decide +kernel) rfl
theorem q343 : Cond.static yJ0_checkIndex_df160 ∈ lw_all := lw_q 343 (by decide +kernel) rfl
theorem q344 : Cond.code yJ0_checkIndex_df160 cJ0_checkIndex_df160 2 none ∈ lw_all := lw_q 344 (by decide +kernel) rfl
theorem q345 : Cond.fieldLink RJ0 1053 "jdk/internal/util/Preconditions" "SIOOBE_FORMATTER" "Ljava/util/function/BiFunction;" ∈ lw_all := lw_q 345 (by decide +kernel) rfl
theorem q347 : Cond.methodLink RJ0 1059 yJ3_checkIndex_8e157 ∈ lw_all := lw_q 347 (by decide +kernel) rfl
theorem q348 : Cond.static yJ3_checkIndex_8e157 ∈ lw_all := lw_q 348 (by decide +kernel) rfl
theorem q349 : Cond.code yJ3_checkIndex_8e157 cJ3_checkIndex_8e157 3 (some .int) ∈ lw_all := lw_q 349 (by decide +kernel) rfl
theorem q369 : Cond.methodLink RL 48 yL_spaced ∈ lw_all := lw_q 369 (by decide +kernel) rfl
theorem q371 : Cond.instanceMethod yL_spaced ∈ lw_all := lw_q 371 (by decide +kernel) rfl
theorem q372 : Cond.code yL_spaced cL_spaced 4 none ∈ lw_all := lw_q 372 (by decide +kernel) rfl
theorem q375 : Cond.constant RL 52 (50000) ∈ lw_all := lw_q 375 (by decide +kernel) rfl
theorem q380 : Cond.constant RL 61 (200000) ∈ lw_all := lw_q 380 (by decide +kernel) rfl
theorem q382 : Cond.methodLink RL 64 yL_feeds ∈ lw_all := lw_q 382 (by decide +kernel) rfl
theorem q384 : Cond.instanceMethod yL_feeds ∈ lw_all := lw_q 384 (by decide +kernel) rfl
theorem q385 : Cond.code yL_feeds cL_feeds 5 (some .int) ∈ lw_all := lw_q 385 (by decide +kernel) rfl
theorem q386 : Cond.methodLink RL 36 yX7_feed ∈ lw_all := lw_q 386 (by decide +kernel) rfl
theorem q387 : Cond.instanceMethod yX7_feed ∈ lw_all := lw_q 387 (by decide +kernel) rfl
theorem q388 : Cond.selects RX7 yX7_feed yX7_feed ∈ lw_all := lw_q 388 (by decide +kernel) rfl
theorem q389 : Cond.code yX7_feed cX7_feed 6 (some .int) ∈ lw_all := lw_q 389 (by decide +kernel) rfl
theorem q390 : Cond.methodLink RX7 48 yX5_hasRoomFor ∈ lw_all := lw_q 390 (by decide +kernel) rfl
theorem q391 : Cond.instanceMethod yX5_hasRoomFor ∈ lw_all := lw_q 391 (by decide +kernel) rfl
theorem q392 : Cond.selects RX5 yX5_hasRoomFor yX5_hasRoomFor ∈ lw_all := lw_q 392 (by decide +kernel) rfl
theorem q393 : Cond.code yX5_hasRoomFor cX5_hasRoomFor 2 (some .boolean) ∈ lw_all := lw_q 393 (by decide +kernel) rfl
theorem q394 : Cond.methodLink RX7 52 yX5_append ∈ lw_all := lw_q 394 (by decide +kernel) rfl
theorem q395 : Cond.instanceMethod yX5_append ∈ lw_all := lw_q 395 (by decide +kernel) rfl
theorem q396 : Cond.selects RX5 yX5_append yX5_append ∈ lw_all := lw_q 396 (by decide +kernel) rfl
theorem q397 : Cond.code yX5_append cX5_append 3 none ∈ lw_all := lw_q 397 (by decide +kernel) rfl
theorem q398 : Cond.methodLink RL 68 yX7_load ∈ lw_all := lw_q 398 (by decide +kernel) rfl
theorem q399 : Cond.instanceMethod yX7_load ∈ lw_all := lw_q 399 (by decide +kernel) rfl
theorem q400 : Cond.selects RX7 yX7_load yX7_load ∈ lw_all := lw_q 400 (by decide +kernel) rfl
theorem q401 : Cond.code yX7_load cX7_load 3 (some .int) ∈ lw_all := lw_q 401 (by decide +kernel) rfl
theorem q402 : Cond.methodLink RX7 60 yX7_requireWithin ∈ lw_all := lw_q 402 (by decide +kernel) rfl
theorem q403 : Cond.static yX7_requireWithin ∈ lw_all := lw_q 403 (by decide +kernel) rfl
theorem q404 : Cond.code yX7_requireWithin cX7_requireWithin 3 none ∈ lw_all := lw_q 404 (by decide +kernel) rfl
theorem q471 : Cond.methodLink RX7 64 yX5_begin ∈ lw_all := lw_q 471 (by decide +kernel) rfl
theorem q472 : Cond.instanceMethod yX5_begin ∈ lw_all := lw_q 472 (by decide +kernel) rfl
theorem q473 : Cond.selects RX5 yX5_begin yX5_begin ∈ lw_all := lw_q 473 (by decide +kernel) rfl
theorem q474 : Cond.code yX5_begin cX5_begin 2 none ∈ lw_all := lw_q 474 (by decide +kernel) rfl
theorem q475 : Cond.methodLink RX5 22 Lib.Math.min.name ∈ lw_all := lw_q 475 (by decide +kernel) rfl
theorem q476 : Cond.static Lib.Math.min.name ∈ lw_all := lw_q 476 (by decide +kernel) rfl
theorem q477 : Cond.code Lib.Math.min.name Lib.Math.min.code 2 (some .int) ∈ lw_all := lw_q 477 (by decide +kernel) rfl
theorem q478 : Cond.methodLink RX5 37 yX5_advance ∈ lw_all := lw_q 478 (by decide +kernel) rfl
theorem q479 : Cond.instanceMethod yX5_advance ∈ lw_all := lw_q 479 (by decide +kernel) rfl
theorem q480 : Cond.selects RX5 yX5_advance yX5_advance ∈ lw_all := lw_q 480 (by decide +kernel) rfl
theorem q481 : Cond.code yX5_advance cX5_advance 1 none ∈ lw_all := lw_q 481 (by decide +kernel) rfl
theorem q482 : Cond.methodLink RX5 40 yX5_byteAt ∈ lw_all := lw_q 482 (by decide +kernel) rfl
theorem q484 : Cond.instanceMethod yX5_byteAt ∈ lw_all := lw_q 484 (by decide +kernel) rfl
theorem q485 : Cond.code yX5_byteAt cX5_byteAt 2 (some .int) ∈ lw_all := lw_q 485 (by decide +kernel) rfl
theorem q486 : Cond.methodLink RX5 53 yX5_isLetter ∈ lw_all := lw_q 486 (by decide +kernel) rfl
theorem q487 : Cond.static yX5_isLetter ∈ lw_all := lw_q 487 (by decide +kernel) rfl
theorem q488 : Cond.code yX5_isLetter cX5_isLetter 1 (some .boolean) ∈ lw_all := lw_q 488 (by decide +kernel) rfl
theorem q489 : Cond.methodLink RX5 57 yX5_isDigit ∈ lw_all := lw_q 489 (by decide +kernel) rfl
theorem q490 : Cond.static yX5_isDigit ∈ lw_all := lw_q 490 (by decide +kernel) rfl
theorem q491 : Cond.code yX5_isDigit cX5_isDigit 1 (some .boolean) ∈ lw_all := lw_q 491 (by decide +kernel) rfl
theorem q492 : Cond.constant RX5 60 (9999999) ∈ lw_all := lw_q 492 (by decide +kernel) rfl
theorem q493 : Cond.classLink RX7 67 RX4 ∈ lw_all := lw_q 493 (by decide +kernel) rfl
theorem q494 : Cond.instantiable RX4 2 ∈ lw_all := lw_q 494 (by decide +kernel) rfl
theorem q495 : Cond.methodLink RX7 69 yX4_init ∈ lw_all := lw_q 495 (by decide +kernel) rfl
theorem q496 : Cond.instanceMethod yX4_init ∈ lw_all := lw_q 496 (by decide +kernel) rfl
theorem q497 : Cond.code yX4_init cX4_init 3 none ∈ lw_all := lw_q 497 (by decide +kernel) rfl
theorem q498 : Cond.methodLink RX4 3 Lib.objectInit ∈ lw_all := lw_q 498 (by decide +kernel) rfl
theorem q499 : Cond.fieldLink RX4 9 "SlantGauges$TextGrammar" "tokens" "LSlantGauges$Tokens;" ∈ lw_all := lw_q 499 (by decide +kernel) rfl
theorem q500 : Cond.fieldLink RX4 15 "SlantGauges$TextGrammar" "row" "LSlantGauges$Row;" ∈ lw_all := lw_q 500 (by decide +kernel) rfl
theorem q506 : Cond.methodLink RX7 72 yX4_read ∈ lw_all := lw_q 506 (by decide +kernel) rfl
theorem q507 : Cond.instanceMethod yX4_read ∈ lw_all := lw_q 507 (by decide +kernel) rfl
theorem q508 : Cond.selects RX4 yX4_read yX4_read ∈ lw_all := lw_q 508 (by decide +kernel) rfl
theorem q509 : Cond.code yX4_read cX4_read 4 none ∈ lw_all := lw_q 509 (by decide +kernel) rfl
theorem q511 : Cond.methodLink RX4 21 yX5_takeWord ∈ lw_all := lw_q 511 (by decide +kernel) rfl
theorem q512 : Cond.instanceMethod yX5_takeWord ∈ lw_all := lw_q 512 (by decide +kernel) rfl
theorem q513 : Cond.selects RX5 yX5_takeWord yX5_takeWord ∈ lw_all := lw_q 513 (by decide +kernel) rfl
theorem q514 : Cond.code yX5_takeWord cX5_takeWord 2 none ∈ lw_all := lw_q 514 (by decide +kernel) rfl
theorem q515 : Cond.methodLink RX5 71 yX5_isWord ∈ lw_all := lw_q 515 (by decide +kernel) rfl
theorem q516 : Cond.instanceMethod yX5_isWord ∈ lw_all := lw_q 516 (by decide +kernel) rfl
theorem q517 : Cond.selects RX5 yX5_isWord yX5_isWord ∈ lw_all := lw_q 517 (by decide +kernel) rfl
theorem q518 : Cond.code yX5_isWord cX5_isWord 5 (some .boolean) ∈ lw_all := lw_q 518 (by decide +kernel) rfl
theorem q519 : Cond.methodLink RX5 61 yJ0_length_8abf5 ∈ lw_all := lw_q 519 (by decide +kernel) rfl
theorem q520 : Cond.methodLink RX5 67 yJ0_charAt_5068e ∈ lw_all := lw_q 520 (by decide +kernel) rfl
theorem q521 : Cond.methodLink RX5 75 yX5_fail ∈ lw_all := lw_q 521 (by decide +kernel) rfl
theorem q522 : Cond.instanceMethod yX5_fail ∈ lw_all := lw_q 522 (by decide +kernel) rfl
theorem q523 : Cond.selects RX5 yX5_fail yX5_fail ∈ lw_all := lw_q 523 (by decide +kernel) rfl
theorem q524 : Cond.code yX5_fail cX5_fail 2 none ∈ lw_all := lw_q 524 (by decide +kernel) rfl
theorem q525 : Cond.methodLink RX4 27 yX5_takeNumber ∈ lw_all := lw_q 525 (by decide +kernel) rfl
theorem q526 : Cond.instanceMethod yX5_takeNumber ∈ lw_all := lw_q 526 (by decide +kernel) rfl
theorem q527 : Cond.selects RX5 yX5_takeNumber yX5_takeNumber ∈ lw_all := lw_q 527 (by decide +kernel) rfl
theorem q528 : Cond.code yX5_takeNumber cX5_takeNumber 4 (some .int) ∈ lw_all := lw_q 528 (by decide +kernel) rfl
theorem q529 : Cond.constant RX4 31 (99999) ∈ lw_all := lw_q 529 (by decide +kernel) rfl
theorem q530 : Cond.methodLink RX4 32 yX3_clear ∈ lw_all := lw_q 530 (by decide +kernel) rfl
theorem q531 : Cond.methodLink RX4 38 yX5_takeSign ∈ lw_all := lw_q 531 (by decide +kernel) rfl
theorem q532 : Cond.instanceMethod yX5_takeSign ∈ lw_all := lw_q 532 (by decide +kernel) rfl
theorem q533 : Cond.selects RX5 yX5_takeSign yX5_takeSign ∈ lw_all := lw_q 533 (by decide +kernel) rfl
theorem q534 : Cond.code yX5_takeSign cX5_takeSign 2 none ∈ lw_all := lw_q 534 (by decide +kernel) rfl
theorem q535 : Cond.methodLink RX5 79 yX5_isSign ∈ lw_all := lw_q 535 (by decide +kernel) rfl
theorem q536 : Cond.instanceMethod yX5_isSign ∈ lw_all := lw_q 536 (by decide +kernel) rfl
theorem q537 : Cond.selects RX5 yX5_isSign yX5_isSign ∈ lw_all := lw_q 537 (by decide +kernel) rfl
theorem q538 : Cond.code yX5_isSign cX5_isSign 2 (some .boolean) ∈ lw_all := lw_q 538 (by decide +kernel) rfl
theorem q539 : Cond.methodLink RX4 42 yX5_goesOn ∈ lw_all := lw_q 539 (by decide +kernel) rfl
theorem q540 : Cond.instanceMethod yX5_goesOn ∈ lw_all := lw_q 540 (by decide +kernel) rfl
theorem q541 : Cond.selects RX5 yX5_goesOn yX5_goesOn ∈ lw_all := lw_q 541 (by decide +kernel) rfl
theorem q542 : Cond.code yX5_goesOn cX5_goesOn 1 (some .boolean) ∈ lw_all := lw_q 542 (by decide +kernel) rfl
theorem q543 : Cond.methodLink RX4 46 yX4_readClause ∈ lw_all := lw_q 543 (by decide +kernel) rfl
theorem q545 : Cond.instanceMethod yX4_readClause ∈ lw_all := lw_q 545 (by decide +kernel) rfl
theorem q546 : Cond.code yX4_readClause cX4_readClause 2 none ∈ lw_all := lw_q 546 (by decide +kernel) rfl
theorem q548 : Cond.methodLink RX4 51 yX5_isWord ∈ lw_all := lw_q 548 (by decide +kernel) rfl
theorem q549 : Cond.methodLink RX4 55 yX4_readLeg ∈ lw_all := lw_q 549 (by decide +kernel) rfl
theorem q551 : Cond.instanceMethod yX4_readLeg ∈ lw_all := lw_q 551 (by decide +kernel) rfl
theorem q552 : Cond.code yX4_readLeg cX4_readLeg 4 none ∈ lw_all := lw_q 552 (by decide +kernel) rfl
theorem q553 : Cond.methodLink RX4 72 yX5_advance ∈ lw_all := lw_q 553 (by decide +kernel) rfl
theorem q554 : Cond.methodLink RX4 75 yX3_legAt ∈ lw_all := lw_q 554 (by decide +kernel) rfl
theorem q555 : Cond.instanceMethod yX3_legAt ∈ lw_all := lw_q 555 (by decide +kernel) rfl
theorem q556 : Cond.selects RX3 yX3_legAt yX3_legAt ∈ lw_all := lw_q 556 (by decide +kernel) rfl
theorem q557 : Cond.code yX3_legAt cX3_legAt 2 (some (.object "SlantGauges$Leg")) ∈ lw_all := lw_q 557 (by decide +kernel) rfl
theorem q558 : Cond.methodLink RX4 79 yX5_takeSigned ∈ lw_all := lw_q 558 (by decide +kernel) rfl
theorem q559 : Cond.instanceMethod yX5_takeSigned ∈ lw_all := lw_q 559 (by decide +kernel) rfl
theorem q560 : Cond.selects RX5 yX5_takeSigned yX5_takeSigned ∈ lw_all := lw_q 560 (by decide +kernel) rfl
theorem q561 : Cond.code yX5_takeSigned cX5_takeSigned 3 (some .int) ∈ lw_all := lw_q 561 (by decide +kernel) rfl
theorem q562 : Cond.methodLink RX5 83 yX5_takeNumber ∈ lw_all := lw_q 562 (by decide +kernel) rfl
theorem q563 : Cond.methodLink RX4 83 yX1_liquid ∈ lw_all := lw_q 563 (by decide +kernel) rfl
theorem q565 : Cond.methodLink RX4 60 yX4_readTube ∈ lw_all := lw_q 565 (by decide +kernel) rfl
theorem q567 : Cond.instanceMethod yX4_readTube ∈ lw_all := lw_q 567 (by decide +kernel) rfl
theorem q568 : Cond.code yX4_readTube cX4_readTube 5 none ∈ lw_all := lw_q 568 (by decide +kernel) rfl
theorem q569 : Cond.methodLink RX4 92 yX5_fail ∈ lw_all := lw_q 569 (by decide +kernel) rfl
theorem q570 : Cond.methodLink RX4 96 yX3_append ∈ lw_all := lw_q 570 (by decide +kernel) rfl
theorem q571 : Cond.instanceMethod yX3_append ∈ lw_all := lw_q 571 (by decide +kernel) rfl
theorem q572 : Cond.selects RX3 yX3_append yX3_append ∈ lw_all := lw_q 572 (by decide +kernel) rfl
theorem q573 : Cond.code yX3_append cX3_append 1 (some (.object "SlantGauges$Tube")) ∈ lw_all := lw_q 573 (by decide +kernel) rfl
theorem q574 : Cond.methodLink RX3 58 yX3_tubeAt ∈ lw_all := lw_q 574 (by decide +kernel) rfl
theorem q575 : Cond.instanceMethod yX3_tubeAt ∈ lw_all := lw_q 575 (by decide +kernel) rfl
theorem q576 : Cond.selects RX3 yX3_tubeAt yX3_tubeAt ∈ lw_all := lw_q 576 (by decide +kernel) rfl
theorem q577 : Cond.code yX3_tubeAt cX3_tubeAt 2 (some (.object "SlantGauges$Tube")) ∈ lw_all := lw_q 577 (by decide +kernel) rfl
theorem q578 : Cond.methodLink RX4 100 yX6_stand ∈ lw_all := lw_q 578 (by decide +kernel) rfl
theorem q579 : Cond.instanceMethod yX6_stand ∈ lw_all := lw_q 579 (by decide +kernel) rfl
theorem q580 : Cond.selects RX6 yX6_stand yX6_stand ∈ lw_all := lw_q 580 (by decide +kernel) rfl
theorem q581 : Cond.code yX6_stand cX6_stand 3 none ∈ lw_all := lw_q 581 (by decide +kernel) rfl
theorem q582 : Cond.methodLink RX4 105 yX6_shape ∈ lw_all := lw_q 582 (by decide +kernel) rfl
theorem q583 : Cond.instanceMethod yX6_shape ∈ lw_all := lw_q 583 (by decide +kernel) rfl
theorem q584 : Cond.selects RX6 yX6_shape yX6_shape ∈ lw_all := lw_q 584 (by decide +kernel) rfl
theorem q585 : Cond.code yX6_shape cX6_shape 4 none ∈ lw_all := lw_q 585 (by decide +kernel) rfl
theorem q588 : Cond.methodLink RX4 69 yX3_press ∈ lw_all := lw_q 588 (by decide +kernel) rfl
theorem q589 : Cond.instanceMethod yX3_press ∈ lw_all := lw_q 589 (by decide +kernel) rfl
theorem q590 : Cond.selects RX3 yX3_press yX3_press ∈ lw_all := lw_q 590 (by decide +kernel) rfl
theorem q591 : Cond.code yX3_press cX3_press 3 none ∈ lw_all := lw_q 591 (by decide +kernel) rfl
theorem q592 : Cond.methodLink RX7 75 yX5_empty ∈ lw_all := lw_q 592 (by decide +kernel) rfl
theorem q593 : Cond.instanceMethod yX5_empty ∈ lw_all := lw_q 593 (by decide +kernel) rfl
theorem q594 : Cond.selects RX5 yX5_empty yX5_empty ∈ lw_all := lw_q 594 (by decide +kernel) rfl
theorem q595 : Cond.code yX5_empty cX5_empty 1 none ∈ lw_all := lw_q 595 (by decide +kernel) rfl
theorem q596 : Cond.methodLink RX7 81 yX3_copyFrom ∈ lw_all := lw_q 596 (by decide +kernel) rfl
theorem q597 : Cond.instanceMethod yX3_copyFrom ∈ lw_all := lw_q 597 (by decide +kernel) rfl
theorem q598 : Cond.selects RX3 yX3_copyFrom yX3_copyFrom ∈ lw_all := lw_q 598 (by decide +kernel) rfl
theorem q599 : Cond.code yX3_copyFrom cX3_copyFrom 3 none ∈ lw_all := lw_q 599 (by decide +kernel) rfl
theorem q600 : Cond.methodLink RX3 50 yX3_pressureAt ∈ lw_all := lw_q 600 (by decide +kernel) rfl
theorem q601 : Cond.instanceMethod yX3_pressureAt ∈ lw_all := lw_q 601 (by decide +kernel) rfl
theorem q602 : Cond.selects RX3 yX3_pressureAt yX3_pressureAt ∈ lw_all := lw_q 602 (by decide +kernel) rfl
theorem q603 : Cond.code yX3_pressureAt cX3_pressureAt 2 (some .int) ∈ lw_all := lw_q 603 (by decide +kernel) rfl
theorem q604 : Cond.methodLink RX3 54 yX1_copyFrom ∈ lw_all := lw_q 604 (by decide +kernel) rfl
theorem q605 : Cond.instanceMethod yX1_copyFrom ∈ lw_all := lw_q 605 (by decide +kernel) rfl
theorem q606 : Cond.selects RX1 yX1_copyFrom yX1_copyFrom ∈ lw_all := lw_q 606 (by decide +kernel) rfl
theorem q607 : Cond.code yX1_copyFrom cX1_copyFrom 2 none ∈ lw_all := lw_q 607 (by decide +kernel) rfl
theorem q608 : Cond.methodLink RX3 62 yX6_copyFrom ∈ lw_all := lw_q 608 (by decide +kernel) rfl
theorem q609 : Cond.instanceMethod yX6_copyFrom ∈ lw_all := lw_q 609 (by decide +kernel) rfl
theorem q610 : Cond.selects RX6 yX6_copyFrom yX6_copyFrom ∈ lw_all := lw_q 610 (by decide +kernel) rfl
theorem q611 : Cond.code yX6_copyFrom cX6_copyFrom 2 none ∈ lw_all := lw_q 611 (by decide +kernel) rfl
theorem q612 : Cond.methodLink RX6 33 yX6_stand ∈ lw_all := lw_q 612 (by decide +kernel) rfl
theorem q613 : Cond.methodLink RX6 37 yX6_shape ∈ lw_all := lw_q 613 (by decide +kernel) rfl
theorem q614 : Cond.methodLink RX7 85 yX3_settle ∈ lw_all := lw_q 614 (by decide +kernel) rfl
theorem q615 : Cond.instanceMethod yX3_settle ∈ lw_all := lw_q 615 (by decide +kernel) rfl
theorem q616 : Cond.selects RX3 yX3_settle yX3_settle ∈ lw_all := lw_q 616 (by decide +kernel) rfl
theorem q617 : Cond.code yX3_settle cX3_settle 4 (some .int) ∈ lw_all := lw_q 617 (by decide +kernel) rfl
theorem q618 : Cond.methodLink RX3 99 yX3_legAt ∈ lw_all := lw_q 618 (by decide +kernel) rfl
theorem q619 : Cond.methodLink RX3 122 yX3_settleLeg ∈ lw_all := lw_q 619 (by decide +kernel) rfl
theorem q621 : Cond.instanceMethod yX3_settleLeg ∈ lw_all := lw_q 621 (by decide +kernel) rfl
theorem q622 : Cond.code yX3_settleLeg cX3_settleLeg 6 (some .int) ∈ lw_all := lw_q 622 (by decide +kernel) rfl
theorem q623 : Cond.methodLink RX3 129 yX3_greatestLevel ∈ lw_all := lw_q 623 (by decide +kernel) rfl
theorem q625 : Cond.instanceMethod yX3_greatestLevel ∈ lw_all := lw_q 625 (by decide +kernel) rfl
theorem q626 : Cond.code yX3_greatestLevel cX3_greatestLevel 10 (some .long) ∈ lw_all := lw_q 626 (by decide +kernel) rfl
theorem q627 : Cond.methodLink RX3 142 yX3_fullVolumes ∈ lw_all := lw_q 627 (by decide +kernel) rfl
theorem q629 : Cond.instanceMethod yX3_fullVolumes ∈ lw_all := lw_q 629 (by decide +kernel) rfl
theorem q630 : Cond.code yX3_fullVolumes cX3_fullVolumes 6 (some .long) ∈ lw_all := lw_q 630 (by decide +kernel) rfl
theorem q631 : Cond.methodLink RX3 157 yX6_fullVolume ∈ lw_all := lw_q 631 (by decide +kernel) rfl
theorem q632 : Cond.instanceMethod yX6_fullVolume ∈ lw_all := lw_q 632 (by decide +kernel) rfl
theorem q633 : Cond.selects RX6 yX6_fullVolume yX6_fullVolume ∈ lw_all := lw_q 633 (by decide +kernel) rfl
theorem q634 : Cond.code yX6_fullVolume cX6_fullVolume 1 (some .long) ∈ lw_all := lw_q 634 (by decide +kernel) rfl
theorem q635 : Cond.methodLink RX6 50 yX6_fullColumn ∈ lw_all := lw_q 635 (by decide +kernel) rfl
theorem q636 : Cond.instanceMethod yX6_fullColumn ∈ lw_all := lw_q 636 (by decide +kernel) rfl
theorem q637 : Cond.selects RX6 yX6_fullColumn yX6_fullColumn ∈ lw_all := lw_q 637 (by decide +kernel) rfl
theorem q638 : Cond.code yX6_fullColumn cX6_fullColumn 1 (some .int) ∈ lw_all := lw_q 638 (by decide +kernel) rfl
theorem q639 : Cond.methodLink RX3 145 yJ9_floorDiv_f86c9 ∈ lw_all := lw_q 639 (by decide +kernel) rfl
theorem q640 : Cond.static yJ9_floorDiv_f86c9 ∈ lw_all := lw_q 640 (by decide +kernel) rfl
theorem q641 : Cond.code yJ9_floorDiv_f86c9 cJ9_floorDiv_f86c9 6 (some .long) ∈ lw_all := lw_q 641 (by decide +kernel) rfl
theorem q642 : Cond.constantLong RX3 151 (2) ∈ lw_all := lw_q 642 (by decide +kernel) rfl
theorem q643 : Cond.methodLink RX3 153 yX3_volumesAt ∈ lw_all := lw_q 643 (by decide +kernel) rfl
theorem q644 : Cond.instanceMethod yX3_volumesAt ∈ lw_all := lw_q 644 (by decide +kernel) rfl
theorem q645 : Cond.selects RX3 yX3_volumesAt yX3_volumesAt ∈ lw_all := lw_q 645 (by decide +kernel) rfl
theorem q646 : Cond.code yX3_volumesAt cX3_volumesAt 8 (some .long) ∈ lw_all := lw_q 646 (by decide +kernel) rfl
theorem q647 : Cond.methodLink RX3 125 yX6_columnAt ∈ lw_all := lw_q 647 (by decide +kernel) rfl
theorem q648 : Cond.instanceMethod yX6_columnAt ∈ lw_all := lw_q 648 (by decide +kernel) rfl
theorem q649 : Cond.selects RX6 yX6_columnAt yX6_columnAt ∈ lw_all := lw_q 649 (by decide +kernel) rfl
theorem q650 : Cond.code yX6_columnAt cX6_columnAt 3 (some .long) ∈ lw_all := lw_q 650 (by decide +kernel) rfl
theorem q651 : Cond.methodLink RX6 56 yX6_runAt ∈ lw_all := lw_q 651 (by decide +kernel) rfl
theorem q652 : Cond.instanceMethod yX6_runAt ∈ lw_all := lw_q 652 (by decide +kernel) rfl
theorem q653 : Cond.selects RX6 yX6_runAt yX6_runAt ∈ lw_all := lw_q 653 (by decide +kernel) rfl
theorem q654 : Cond.code yX6_runAt cX6_runAt 3 (some .long) ∈ lw_all := lw_q 654 (by decide +kernel) rfl
theorem q655 : Cond.constantLong RX6 54 (1000) ∈ lw_all := lw_q 655 (by decide +kernel) rfl
theorem q656 : Cond.methodLink RX6 60 Lib.MathLoose.min_long.x ∈ lw_all := lw_q 656 (by decide +kernel) rfl
theorem q657 : Cond.static Lib.MathLoose.min_long.x ∈ lw_all := lw_q 657 (by decide +kernel) rfl
theorem q658 : Cond.code Lib.MathLoose.min_long.x Lib.MathLoose.min_long.code 4 (some .long) ∈ lw_all := lw_q 658 (by decide +kernel) rfl
theorem q659 : Cond.methodLink RX6 66 Lib.MathLoose.max_long.x ∈ lw_all := lw_q 659 (by decide +kernel) rfl
theorem q660 : Cond.static Lib.MathLoose.max_long.x ∈ lw_all := lw_q 660 (by decide +kernel) rfl
theorem q661 : Cond.code Lib.MathLoose.max_long.x Lib.MathLoose.max_long.code 4 (some .long) ∈ lw_all := lw_q 661 (by decide +kernel) rfl
theorem q662 : Cond.methodLink RX3 133 yX3_breakTubes ∈ lw_all := lw_q 662 (by decide +kernel) rfl
theorem q664 : Cond.instanceMethod yX3_breakTubes ∈ lw_all := lw_q 664 (by decide +kernel) rfl
theorem q665 : Cond.code yX3_breakTubes cX3_breakTubes 8 (some .int) ∈ lw_all := lw_q 665 (by decide +kernel) rfl
theorem q666 : Cond.methodLink RX3 161 yX6_runAt ∈ lw_all := lw_q 666 (by decide +kernel) rfl
theorem q667 : Cond.methodLink RX3 164 yX6_fullColumn ∈ lw_all := lw_q 667 (by decide +kernel) rfl
theorem q668 : Cond.methodLink RX7 89 yX0_clear ∈ lw_all := lw_q 668 (by decide +kernel) rfl
theorem q669 : Cond.instanceMethod yX0_clear ∈ lw_all := lw_q 669 (by decide +kernel) rfl
theorem q670 : Cond.selects RX0 yX0_clear yX0_clear ∈ lw_all := lw_q 670 (by decide +kernel) rfl
theorem q671 : Cond.code yX0_clear cX0_clear 1 none ∈ lw_all := lw_q 671 (by decide +kernel) rfl
theorem q672 : Cond.methodLink RX7 95 yX3_countInState ∈ lw_all := lw_q 672 (by decide +kernel) rfl
theorem q673 : Cond.instanceMethod yX3_countInState ∈ lw_all := lw_q 673 (by decide +kernel) rfl
theorem q674 : Cond.selects RX3 yX3_countInState yX3_countInState ∈ lw_all := lw_q 674 (by decide +kernel) rfl
theorem q675 : Cond.code yX3_countInState cX3_countInState 4 (some .int) ∈ lw_all := lw_q 675 (by decide +kernel) rfl
theorem q676 : Cond.methodLink RL 72 yX7_errorPosition ∈ lw_all := lw_q 676 (by decide +kernel) rfl
theorem q677 : Cond.instanceMethod yX7_errorPosition ∈ lw_all := lw_q 677 (by decide +kernel) rfl
theorem q678 : Cond.selects RX7 yX7_errorPosition yX7_errorPosition ∈ lw_all := lw_q 678 (by decide +kernel) rfl
theorem q679 : Cond.code yX7_errorPosition cX7_errorPosition 1 (some .int) ∈ lw_all := lw_q 679 (by decide +kernel) rfl
theorem q680 : Cond.methodLink RL 75 yX7_size ∈ lw_all := lw_q 680 (by decide +kernel) rfl
theorem q681 : Cond.instanceMethod yX7_size ∈ lw_all := lw_q 681 (by decide +kernel) rfl
theorem q682 : Cond.selects RX7 yX7_size yX7_size ∈ lw_all := lw_q 682 (by decide +kernel) rfl
theorem q683 : Cond.code yX7_size cX7_size 2 (some .int) ∈ lw_all := lw_q 683 (by decide +kernel) rfl
theorem q684 : Cond.methodLink RX7 111 yX3_countInLeg ∈ lw_all := lw_q 684 (by decide +kernel) rfl
theorem q685 : Cond.instanceMethod yX3_countInLeg ∈ lw_all := lw_q 685 (by decide +kernel) rfl
theorem q686 : Cond.selects RX3 yX3_countInLeg yX3_countInLeg ∈ lw_all := lw_q 686 (by decide +kernel) rfl
theorem q687 : Cond.code yX3_countInLeg cX3_countInLeg 4 (some .int) ∈ lw_all := lw_q 687 (by decide +kernel) rfl
theorem q704 : Cond.methodLink RL 124 yL_holds ∈ lw_all := lw_q 704 (by decide +kernel) rfl
theorem q705 : Cond.static yL_holds ∈ lw_all := lw_q 705 (by decide +kernel) rfl
theorem q706 : Cond.code yL_holds cL_holds 4 (some .boolean) ∈ lw_all := lw_q 706 (by decide +kernel) rfl
theorem q707 : Cond.methodLink RL 127 yL_areTubes ∈ lw_all := lw_q 707 (by decide +kernel) rfl
theorem q708 : Cond.static yL_areTubes ∈ lw_all := lw_q 708 (by decide +kernel) rfl
theorem q709 : Cond.code yL_areTubes cL_areTubes 8 (some .boolean) ∈ lw_all := lw_q 709 (by decide +kernel) rfl
theorem q710 : Cond.methodLink RL 114 yX7_tube ∈ lw_all := lw_q 710 (by decide +kernel) rfl
theorem q711 : Cond.instanceMethod yX7_tube ∈ lw_all := lw_q 711 (by decide +kernel) rfl
theorem q712 : Cond.selects RX7 yX7_tube yX7_tube ∈ lw_all := lw_q 712 (by decide +kernel) rfl
theorem q713 : Cond.code yX7_tube cX7_tube 3 (some .int) ∈ lw_all := lw_q 713 (by decide +kernel) rfl
theorem q714 : Cond.methodLink RX7 166 yX7_requireTube ∈ lw_all := lw_q 714 (by decide +kernel) rfl
theorem q716 : Cond.instanceMethod yX7_requireTube ∈ lw_all := lw_q 716 (by decide +kernel) rfl
theorem q717 : Cond.code yX7_requireTube cX7_requireTube 2 none ∈ lw_all := lw_q 717 (by decide +kernel) rfl
theorem q720 : Cond.methodLink RX7 171 yX3_numberOf ∈ lw_all := lw_q 720 (by decide +kernel) rfl
theorem q721 : Cond.instanceMethod yX3_numberOf ∈ lw_all := lw_q 721 (by decide +kernel) rfl
theorem q722 : Cond.selects RX3 yX3_numberOf yX3_numberOf ∈ lw_all := lw_q 722 (by decide +kernel) rfl
theorem q723 : Cond.code yX3_numberOf cX3_numberOf 4 (some .int) ∈ lw_all := lw_q 723 (by decide +kernel) rfl
theorem q724 : Cond.methodLink RX3 89 yX6_shownReading ∈ lw_all := lw_q 724 (by decide +kernel) rfl
theorem q725 : Cond.instanceMethod yX6_shownReading ∈ lw_all := lw_q 725 (by decide +kernel) rfl
theorem q726 : Cond.selects RX6 yX6_shownReading yX6_shownReading ∈ lw_all := lw_q 726 (by decide +kernel) rfl
theorem q727 : Cond.code yX6_shownReading cX6_shownReading 1 (some .int) ∈ lw_all := lw_q 727 (by decide +kernel) rfl
theorem q728 : Cond.methodLink RL 139 yX7_pressure ∈ lw_all := lw_q 728 (by decide +kernel) rfl
theorem q729 : Cond.instanceMethod yX7_pressure ∈ lw_all := lw_q 729 (by decide +kernel) rfl
theorem q730 : Cond.selects RX7 yX7_pressure yX7_pressure ∈ lw_all := lw_q 730 (by decide +kernel) rfl
theorem q731 : Cond.code yX7_pressure cX7_pressure 2 (some .int) ∈ lw_all := lw_q 731 (by decide +kernel) rfl
theorem q732 : Cond.methodLink RX7 121 yX7_requirePoint ∈ lw_all := lw_q 732 (by decide +kernel) rfl
theorem q734 : Cond.instanceMethod yX7_requirePoint ∈ lw_all := lw_q 734 (by decide +kernel) rfl
theorem q735 : Cond.code yX7_requirePoint cX7_requirePoint 2 none ∈ lw_all := lw_q 735 (by decide +kernel) rfl
theorem q737 : Cond.methodLink RX7 124 yX3_pressureAt ∈ lw_all := lw_q 737 (by decide +kernel) rfl
theorem q738 : Cond.methodLink RL 141 yX7_leg ∈ lw_all := lw_q 738 (by decide +kernel) rfl
theorem q739 : Cond.instanceMethod yX7_leg ∈ lw_all := lw_q 739 (by decide +kernel) rfl
theorem q740 : Cond.selects RX7 yX7_leg yX7_leg ∈ lw_all := lw_q 740 (by decide +kernel) rfl
theorem q741 : Cond.code yX7_leg cX7_leg 4 (some .int) ∈ lw_all := lw_q 741 (by decide +kernel) rfl
theorem q742 : Cond.methodLink RX7 127 yX7_requireLeg ∈ lw_all := lw_q 742 (by decide +kernel) rfl
theorem q743 : Cond.static yX7_requireLeg ∈ lw_all := lw_q 743 (by decide +kernel) rfl
theorem q744 : Cond.code yX7_requireLeg cX7_requireLeg 1 none ∈ lw_all := lw_q 744 (by decide +kernel) rfl
theorem q746 : Cond.methodLink RX7 130 yX3_legAt ∈ lw_all := lw_q 746 (by decide +kernel) rfl
theorem q748 : Cond.methodLink RL 143 yL_run ∈ lw_all := lw_q 748 (by decide +kernel) rfl
theorem q749 : Cond.static yL_run ∈ lw_all := lw_q 749 (by decide +kernel) rfl
theorem q750 : Cond.code yL_run cL_run 4 (some .long) ∈ lw_all := lw_q 750 (by decide +kernel) rfl
theorem q751 : Cond.constantLong RL 116 (1000) ∈ lw_all := lw_q 751 (by decide +kernel) rfl
theorem q752 : Cond.methodLink RL 147 yX7_room ∈ lw_all := lw_q 752 (by decide +kernel) rfl
theorem q753 : Cond.instanceMethod yX7_room ∈ lw_all := lw_q 753 (by decide +kernel) rfl
theorem q754 : Cond.selects RX7 yX7_room yX7_room ∈ lw_all := lw_q 754 (by decide +kernel) rfl
theorem q755 : Cond.code yX7_room cX7_room 3 (some .int) ∈ lw_all := lw_q 755 (by decide +kernel) rfl
theorem q756 : Cond.methodLink RX7 175 yX3_tubeAt ∈ lw_all := lw_q 756 (by decide +kernel) rfl
theorem q757 : Cond.methodLink RX7 196 yX6_fullColumn ∈ lw_all := lw_q 757 (by decide +kernel) rfl
theorem q758 : Cond.methodLink RL 131 yL_isLevel ∈ lw_all := lw_q 758 (by decide +kernel) rfl
theorem q759 : Cond.static yL_isLevel ∈ lw_all := lw_q 759 (by decide +kernel) rfl
theorem q760 : Cond.code yL_isLevel cL_isLevel 13 (some .boolean) ∈ lw_all := lw_q 760 (by decide +kernel) rfl
theorem q761 : Cond.constantLong RL 150 (100) ∈ lw_all := lw_q 761 (by decide +kernel) rfl
theorem q762 : Cond.methodLink RL 152 Lib.MathLoose.min_long.x ∈ lw_all := lw_q 762 (by decide +kernel) rfl
theorem q763 : Cond.methodLink RL 158 Lib.MathLoose.max_long.x ∈ lw_all := lw_q 763 (by decide +kernel) rfl
theorem q764 : Cond.methodLink RL 161 yX7_account ∈ lw_all := lw_q 764 (by decide +kernel) rfl
theorem q765 : Cond.instanceMethod yX7_account ∈ lw_all := lw_q 765 (by decide +kernel) rfl
theorem q766 : Cond.selects RX7 yX7_account yX7_account ∈ lw_all := lw_q 766 (by decide +kernel) rfl
theorem q767 : Cond.code yX7_account cX7_account 6 (some .long) ∈ lw_all := lw_q 767 (by decide +kernel) rfl
theorem q768 : Cond.methodLink RX7 151 yX3_volumesAt ∈ lw_all := lw_q 768 (by decide +kernel) rfl
theorem q770 : Cond.methodLink RL 135 yL_acts ∈ lw_all := lw_q 770 (by decide +kernel) rfl
theorem q771 : Cond.static yL_acts ∈ lw_all := lw_q 771 (by decide +kernel) rfl
theorem q772 : Cond.code yL_acts cL_acts 4 (some .int) ∈ lw_all := lw_q 772 (by decide +kernel) rfl
theorem q773 : Cond.constant RL 77 (48000) ∈ lw_all := lw_q 773 (by decide +kernel) rfl
theorem q774 : Cond.methodLink RL 78 yX7_setPressure ∈ lw_all := lw_q 774 (by decide +kernel) rfl
theorem q775 : Cond.instanceMethod yX7_setPressure ∈ lw_all := lw_q 775 (by decide +kernel) rfl
theorem q776 : Cond.selects RX7 yX7_setPressure yX7_setPressure ∈ lw_all := lw_q 776 (by decide +kernel) rfl
theorem q777 : Cond.code yX7_setPressure cX7_setPressure 3 (some .int) ∈ lw_all := lw_q 777 (by decide +kernel) rfl
theorem q778 : Cond.constant RX7 207 (99999) ∈ lw_all := lw_q 778 (by decide +kernel) rfl
theorem q779 : Cond.methodLink RX7 229 yX0_keep ∈ lw_all := lw_q 779 (by decide +kernel) rfl
theorem q780 : Cond.instanceMethod yX0_keep ∈ lw_all := lw_q 780 (by decide +kernel) rfl
theorem q781 : Cond.selects RX0 yX0_keep yX0_keep ∈ lw_all := lw_q 781 (by decide +kernel) rfl
theorem q782 : Cond.code yX0_keep cX0_keep 3 none ∈ lw_all := lw_q 782 (by decide +kernel) rfl
theorem q783 : Cond.methodLink RX0 25 yJ9_floorMod_7cf53 ∈ lw_all := lw_q 783 (by decide +kernel) rfl
theorem q784 : Cond.static yJ9_floorMod_7cf53 ∈ lw_all := lw_q 784 (by decide +kernel) rfl
theorem q785 : Cond.code yJ9_floorMod_7cf53 cJ9_floorMod_7cf53 3 (some .int) ∈ lw_all := lw_q 785 (by decide +kernel) rfl
theorem q786 : Cond.methodLink RX0 31 yX3_copyFrom ∈ lw_all := lw_q 786 (by decide +kernel) rfl
theorem q787 : Cond.methodLink RX7 223 yX3_press ∈ lw_all := lw_q 787 (by decide +kernel) rfl
theorem q788 : Cond.constant RL 82 (49000) ∈ lw_all := lw_q 788 (by decide +kernel) rfl
theorem q789 : Cond.methodLink RL 83 yX7_setReference ∈ lw_all := lw_q 789 (by decide +kernel) rfl
theorem q790 : Cond.instanceMethod yX7_setReference ∈ lw_all := lw_q 790 (by decide +kernel) rfl
theorem q791 : Cond.selects RX7 yX7_setReference yX7_setReference ∈ lw_all := lw_q 791 (by decide +kernel) rfl
theorem q792 : Cond.code yX7_setReference cX7_setReference 2 (some .int) ∈ lw_all := lw_q 792 (by decide +kernel) rfl
theorem q793 : Cond.constant RL 86 (48500) ∈ lw_all := lw_q 793 (by decide +kernel) rfl
theorem q794 : Cond.methodLink RL 87 yX7_sweep ∈ lw_all := lw_q 794 (by decide +kernel) rfl
theorem q795 : Cond.instanceMethod yX7_sweep ∈ lw_all := lw_q 795 (by decide +kernel) rfl
theorem q796 : Cond.selects RX7 yX7_sweep yX7_sweep ∈ lw_all := lw_q 796 (by decide +kernel) rfl
theorem q797 : Cond.code yX7_sweep cX7_sweep 7 (some .int) ∈ lw_all := lw_q 797 (by decide +kernel) rfl
theorem q798 : Cond.methodLink RL 91 yX7_setSlant ∈ lw_all := lw_q 798 (by decide +kernel) rfl
theorem q799 : Cond.instanceMethod yX7_setSlant ∈ lw_all := lw_q 799 (by decide +kernel) rfl
theorem q800 : Cond.selects RX7 yX7_setSlant yX7_setSlant ∈ lw_all := lw_q 800 (by decide +kernel) rfl
theorem q801 : Cond.code yX7_setSlant cX7_setSlant 3 (some .int) ∈ lw_all := lw_q 801 (by decide +kernel) rfl
theorem q802 : Cond.methodLink RL 94 yX7_setMark ∈ lw_all := lw_q 802 (by decide +kernel) rfl
theorem q803 : Cond.instanceMethod yX7_setMark ∈ lw_all := lw_q 803 (by decide +kernel) rfl
theorem q804 : Cond.selects RX7 yX7_setMark yX7_setMark ∈ lw_all := lw_q 804 (by decide +kernel) rfl
theorem q805 : Cond.code yX7_setMark cX7_setMark 4 (some .int) ∈ lw_all := lw_q 805 (by decide +kernel) rfl
theorem q806 : Cond.constant RX7 188 (-1000000000) ∈ lw_all := lw_q 806 (by decide +kernel) rfl
theorem q807 : Cond.constant RX7 232 (-1000000001) ∈ lw_all := lw_q 807 (by decide +kernel) rfl
theorem q808 : Cond.constant RL 97 (-1000000000) ∈ lw_all := lw_q 808 (by decide +kernel) rfl
theorem q809 : Cond.methodLink RL 98 yX7_setCurve ∈ lw_all := lw_q 809 (by decide +kernel) rfl
theorem q810 : Cond.instanceMethod yX7_setCurve ∈ lw_all := lw_q 810 (by decide +kernel) rfl
theorem q811 : Cond.selects RX7 yX7_setCurve yX7_setCurve ∈ lw_all := lw_q 811 (by decide +kernel) rfl
theorem q812 : Cond.code yX7_setCurve cX7_setCurve 3 (some .int) ∈ lw_all := lw_q 812 (by decide +kernel) rfl
theorem q813 : Cond.methodLink RL 101 yX7_mend ∈ lw_all := lw_q 813 (by decide +kernel) rfl
theorem q814 : Cond.instanceMethod yX7_mend ∈ lw_all := lw_q 814 (by decide +kernel) rfl
theorem q815 : Cond.selects RX7 yX7_mend yX7_mend ∈ lw_all := lw_q 815 (by decide +kernel) rfl
theorem q816 : Cond.code yX7_mend cX7_mend 3 (some .int) ∈ lw_all := lw_q 816 (by decide +kernel) rfl
theorem q817 : Cond.constant RL 104 (40000000) ∈ lw_all := lw_q 817 (by decide +kernel) rfl
theorem q818 : Cond.methodLink RL 105 yX7_refill ∈ lw_all := lw_q 818 (by decide +kernel) rfl
theorem q819 : Cond.instanceMethod yX7_refill ∈ lw_all := lw_q 819 (by decide +kernel) rfl
theorem q820 : Cond.selects RX7 yX7_refill yX7_refill ∈ lw_all := lw_q 820 (by decide +kernel) rfl
theorem q821 : Cond.code yX7_refill cX7_refill 4 (some .int) ∈ lw_all := lw_q 821 (by decide +kernel) rfl
theorem q822 : Cond.constant RX7 236 (99999999) ∈ lw_all := lw_q 822 (by decide +kernel) rfl
theorem q823 : Cond.constantLong RX7 237 (2000000000) ∈ lw_all := lw_q 823 (by decide +kernel) rfl
theorem q824 : Cond.methodLink RL 108 yX7_addTube ∈ lw_all := lw_q 824 (by decide +kernel) rfl
theorem q825 : Cond.instanceMethod yX7_addTube ∈ lw_all := lw_q 825 (by decide +kernel) rfl
theorem q826 : Cond.selects RX7 yX7_addTube yX7_addTube ∈ lw_all := lw_q 826 (by decide +kernel) rfl
theorem q827 : Cond.code yX7_addTube cX7_addTube 7 (some .int) ∈ lw_all := lw_q 827 (by decide +kernel) rfl
theorem q828 : Cond.methodLink RX7 239 yX3_append ∈ lw_all := lw_q 828 (by decide +kernel) rfl
theorem q829 : Cond.methodLink RX7 242 yX6_stand ∈ lw_all := lw_q 829 (by decide +kernel) rfl
theorem q830 : Cond.methodLink RX7 245 yX6_shape ∈ lw_all := lw_q 830 (by decide +kernel) rfl
theorem q831 : Cond.methodLink RL 111 yX7_dropTube ∈ lw_all := lw_q 831 (by decide +kernel) rfl
theorem q832 : Cond.instanceMethod yX7_dropTube ∈ lw_all := lw_q 832 (by decide +kernel) rfl
theorem q833 : Cond.selects RX7 yX7_dropTube yX7_dropTube ∈ lw_all := lw_q 833 (by decide +kernel) rfl
theorem q834 : Cond.code yX7_dropTube cX7_dropTube 2 (some .int) ∈ lw_all := lw_q 834 (by decide +kernel) rfl
theorem q835 : Cond.methodLink RX7 248 yX3_remove ∈ lw_all := lw_q 835 (by decide +kernel) rfl
theorem q836 : Cond.instanceMethod yX3_remove ∈ lw_all := lw_q 836 (by decide +kernel) rfl
theorem q837 : Cond.selects RX3 yX3_remove yX3_remove ∈ lw_all := lw_q 837 (by decide +kernel) rfl
theorem q838 : Cond.code yX3_remove cX3_remove 3 none ∈ lw_all := lw_q 838 (by decide +kernel) rfl
theorem q853 : Cond.fieldLink RJ0 9 "java/lang/String" "value" "[B" ∈ lw_all := lw_q 853 (by decide +kernel) rfl
theorem q854 : Cond.fieldLink RJ0 15 "java/lang/String" "coder" "B" ∈ lw_all := lw_q 854 (by decide +kernel) rfl
theorem hv_J0_coder_7d493 : yJ0_coder_7d493.cls = RJ0 ∧ yJ0_coder_7d493.cls ≠ "java/lang/invoke/MethodHandle" ∧ yJ0_coder_7d493.cls ≠ "java/lang/invoke/VarHandle" ∧ (parseMethodDescriptor yJ0_coder_7d493.desc).map (fun d => d.parameters.length) = some 0 := by decide +kernel
theorem hs_J3_checkIndex_8e157 : yJ3_checkIndex_8e157.cls ≠ "java/lang/invoke/MethodHandle" ∧ yJ3_checkIndex_8e157.cls ≠ "java/lang/invoke/VarHandle" ∧ (parseMethodDescriptor yJ3_checkIndex_8e157.desc).map (fun d => d.parameters.length) = some 3 := by decide +kernel
theorem hs_J0_checkIndex_df160 : yJ0_checkIndex_df160.cls ≠ "java/lang/invoke/MethodHandle" ∧ yJ0_checkIndex_df160.cls ≠ "java/lang/invoke/VarHandle" ∧ (parseMethodDescriptor yJ0_checkIndex_df160.desc).map (fun d => d.parameters.length) = some 2 := by decide +kernel
theorem hv_J0_isLatin1_aae02 : yJ0_isLatin1_aae02.cls = RJ0 ∧ yJ0_isLatin1_aae02.cls ≠ "java/lang/invoke/MethodHandle" ∧ yJ0_isLatin1_aae02.cls ≠ "java/lang/invoke/VarHandle" ∧ (parseMethodDescriptor yJ0_isLatin1_aae02.desc).map (fun d => d.parameters.length) = some 0 := by decide +kernel
theorem hs_J1_charAt_3b067 : yJ1_charAt_3b067.cls ≠ "java/lang/invoke/MethodHandle" ∧ yJ1_charAt_3b067.cls ≠ "java/lang/invoke/VarHandle" ∧ (parseMethodDescriptor yJ1_charAt_3b067.desc).map (fun d => d.parameters.length) = some 2 := by decide +kernel
theorem hv_X6_stand : yX6_stand.cls = RX6 ∧ yX6_stand.cls ≠ "java/lang/invoke/MethodHandle" ∧ yX6_stand.cls ≠ "java/lang/invoke/VarHandle" ∧ (parseMethodDescriptor yX6_stand.desc).map (fun d => d.parameters.length) = some 2 := by decide +kernel
theorem hv_X6_shape : yX6_shape.cls = RX6 ∧ yX6_shape.cls ≠ "java/lang/invoke/MethodHandle" ∧ yX6_shape.cls ≠ "java/lang/invoke/VarHandle" ∧ (parseMethodDescriptor yX6_shape.desc).map (fun d => d.parameters.length) = some 3 := by decide +kernel
theorem hv_X6_fullColumn : yX6_fullColumn.cls = RX6 ∧ yX6_fullColumn.cls ≠ "java/lang/invoke/MethodHandle" ∧ yX6_fullColumn.cls ≠ "java/lang/invoke/VarHandle" ∧ (parseMethodDescriptor yX6_fullColumn.desc).map (fun d => d.parameters.length) = some 0 := by decide +kernel
theorem hv_X6_runAt : yX6_runAt.cls = RX6 ∧ yX6_runAt.cls ≠ "java/lang/invoke/MethodHandle" ∧ yX6_runAt.cls ≠ "java/lang/invoke/VarHandle" ∧ (parseMethodDescriptor yX6_runAt.desc).map (fun d => d.parameters.length) = some 1 := by decide +kernel
theorem hv_X1_liquid : yX1_liquid.cls = RX1 ∧ yX1_liquid.cls ≠ "java/lang/invoke/MethodHandle" ∧ yX1_liquid.cls ≠ "java/lang/invoke/VarHandle" ∧ (parseMethodDescriptor yX1_liquid.desc).map (fun d => d.parameters.length) = some 3 := by decide +kernel
theorem hv_X1_clear : yX1_clear.cls = RX1 ∧ yX1_clear.cls ≠ "java/lang/invoke/MethodHandle" ∧ yX1_clear.cls ≠ "java/lang/invoke/VarHandle" ∧ (parseMethodDescriptor yX1_clear.desc).map (fun d => d.parameters.length) = some 0 := by decide +kernel
theorem hv_X1_copyFrom : yX1_copyFrom.cls = RX1 ∧ yX1_copyFrom.cls ≠ "java/lang/invoke/MethodHandle" ∧ yX1_copyFrom.cls ≠ "java/lang/invoke/VarHandle" ∧ (parseMethodDescriptor yX1_copyFrom.desc).map (fun d => d.parameters.length) = some 1 := by decide +kernel
theorem hv_X3_tubeAt : yX3_tubeAt.cls = RX3 ∧ yX3_tubeAt.cls ≠ "java/lang/invoke/MethodHandle" ∧ yX3_tubeAt.cls ≠ "java/lang/invoke/VarHandle" ∧ (parseMethodDescriptor yX3_tubeAt.desc).map (fun d => d.parameters.length) = some 1 := by decide +kernel
theorem hv_X6_copyFrom : yX6_copyFrom.cls = RX6 ∧ yX6_copyFrom.cls ≠ "java/lang/invoke/MethodHandle" ∧ yX6_copyFrom.cls ≠ "java/lang/invoke/VarHandle" ∧ (parseMethodDescriptor yX6_copyFrom.desc).map (fun d => d.parameters.length) = some 1 := by decide +kernel
theorem hv_X3_pressureAt : yX3_pressureAt.cls = RX3 ∧ yX3_pressureAt.cls ≠ "java/lang/invoke/MethodHandle" ∧ yX3_pressureAt.cls ≠ "java/lang/invoke/VarHandle" ∧ (parseMethodDescriptor yX3_pressureAt.desc).map (fun d => d.parameters.length) = some 1 := by decide +kernel
theorem hv_X6_shownReading : yX6_shownReading.cls = RX6 ∧ yX6_shownReading.cls ≠ "java/lang/invoke/MethodHandle" ∧ yX6_shownReading.cls ≠ "java/lang/invoke/VarHandle" ∧ (parseMethodDescriptor yX6_shownReading.desc).map (fun d => d.parameters.length) = some 0 := by decide +kernel
theorem hv_X3_legAt : yX3_legAt.cls = RX3 ∧ yX3_legAt.cls ≠ "java/lang/invoke/MethodHandle" ∧ yX3_legAt.cls ≠ "java/lang/invoke/VarHandle" ∧ (parseMethodDescriptor yX3_legAt.desc).map (fun d => d.parameters.length) = some 1 := by decide +kernel
theorem hv_X6_fullVolume : yX6_fullVolume.cls = RX6 ∧ yX6_fullVolume.cls ≠ "java/lang/invoke/MethodHandle" ∧ yX6_fullVolume.cls ≠ "java/lang/invoke/VarHandle" ∧ (parseMethodDescriptor yX6_fullVolume.desc).map (fun d => d.parameters.length) = some 0 := by decide +kernel
theorem hv_X6_columnAt : yX6_columnAt.cls = RX6 ∧ yX6_columnAt.cls ≠ "java/lang/invoke/MethodHandle" ∧ yX6_columnAt.cls ≠ "java/lang/invoke/VarHandle" ∧ (parseMethodDescriptor yX6_columnAt.desc).map (fun d => d.parameters.length) = some 1 := by decide +kernel
theorem hv_X3_fullVolumes : yX3_fullVolumes.cls = RX3 ∧ yX3_fullVolumes.cls ≠ "java/lang/invoke/MethodHandle" ∧ yX3_fullVolumes.cls ≠ "java/lang/invoke/VarHandle" ∧ (parseMethodDescriptor yX3_fullVolumes.desc).map (fun d => d.parameters.length) = some 1 := by decide +kernel
theorem hs_J9_floorDiv_f86c9 : yJ9_floorDiv_f86c9.cls ≠ "java/lang/invoke/MethodHandle" ∧ yJ9_floorDiv_f86c9.cls ≠ "java/lang/invoke/VarHandle" ∧ (parseMethodDescriptor yJ9_floorDiv_f86c9.desc).map (fun d => d.parameters.length) = some 2 := by decide +kernel
theorem hv_X3_volumesAt : yX3_volumesAt.cls = RX3 ∧ yX3_volumesAt.cls ≠ "java/lang/invoke/MethodHandle" ∧ yX3_volumesAt.cls ≠ "java/lang/invoke/VarHandle" ∧ (parseMethodDescriptor yX3_volumesAt.desc).map (fun d => d.parameters.length) = some 2 := by decide +kernel
theorem hv_X3_greatestLevel : yX3_greatestLevel.cls = RX3 ∧ yX3_greatestLevel.cls ≠ "java/lang/invoke/MethodHandle" ∧ yX3_greatestLevel.cls ≠ "java/lang/invoke/VarHandle" ∧ (parseMethodDescriptor yX3_greatestLevel.desc).map (fun d => d.parameters.length) = some 1 := by decide +kernel
theorem hv_X3_breakTubes : yX3_breakTubes.cls = RX3 ∧ yX3_breakTubes.cls ≠ "java/lang/invoke/MethodHandle" ∧ yX3_breakTubes.cls ≠ "java/lang/invoke/VarHandle" ∧ (parseMethodDescriptor yX3_breakTubes.desc).map (fun d => d.parameters.length) = some 1 := by decide +kernel
theorem hv_X3_settleLeg : yX3_settleLeg.cls = RX3 ∧ yX3_settleLeg.cls ≠ "java/lang/invoke/MethodHandle" ∧ yX3_settleLeg.cls ≠ "java/lang/invoke/VarHandle" ∧ (parseMethodDescriptor yX3_settleLeg.desc).map (fun d => d.parameters.length) = some 1 := by decide +kernel
theorem hv_X5_byteAt : yX5_byteAt.cls = RX5 ∧ yX5_byteAt.cls ≠ "java/lang/invoke/MethodHandle" ∧ yX5_byteAt.cls ≠ "java/lang/invoke/VarHandle" ∧ (parseMethodDescriptor yX5_byteAt.desc).map (fun d => d.parameters.length) = some 1 := by decide +kernel
theorem hs_X5_isLetter : yX5_isLetter.cls ≠ "java/lang/invoke/MethodHandle" ∧ yX5_isLetter.cls ≠ "java/lang/invoke/VarHandle" ∧ (parseMethodDescriptor yX5_isLetter.desc).map (fun d => d.parameters.length) = some 1 := by decide +kernel
theorem hs_X5_isDigit : yX5_isDigit.cls ≠ "java/lang/invoke/MethodHandle" ∧ yX5_isDigit.cls ≠ "java/lang/invoke/VarHandle" ∧ (parseMethodDescriptor yX5_isDigit.desc).map (fun d => d.parameters.length) = some 1 := by decide +kernel
theorem hv_X5_advance : yX5_advance.cls = RX5 ∧ yX5_advance.cls ≠ "java/lang/invoke/MethodHandle" ∧ yX5_advance.cls ≠ "java/lang/invoke/VarHandle" ∧ (parseMethodDescriptor yX5_advance.desc).map (fun d => d.parameters.length) = some 0 := by decide +kernel
theorem hv_J0_length_8abf5 : yJ0_length_8abf5.cls = RJ0 ∧ yJ0_length_8abf5.cls ≠ "java/lang/invoke/MethodHandle" ∧ yJ0_length_8abf5.cls ≠ "java/lang/invoke/VarHandle" ∧ (parseMethodDescriptor yJ0_length_8abf5.desc).map (fun d => d.parameters.length) = some 0 := by decide +kernel
theorem hv_J0_charAt_5068e : yJ0_charAt_5068e.cls = RJ0 ∧ yJ0_charAt_5068e.cls ≠ "java/lang/invoke/MethodHandle" ∧ yJ0_charAt_5068e.cls ≠ "java/lang/invoke/VarHandle" ∧ (parseMethodDescriptor yJ0_charAt_5068e.desc).map (fun d => d.parameters.length) = some 1 := by decide +kernel
theorem hv_X5_isWord : yX5_isWord.cls = RX5 ∧ yX5_isWord.cls ≠ "java/lang/invoke/MethodHandle" ∧ yX5_isWord.cls ≠ "java/lang/invoke/VarHandle" ∧ (parseMethodDescriptor yX5_isWord.desc).map (fun d => d.parameters.length) = some 1 := by decide +kernel
theorem hv_X5_fail : yX5_fail.cls = RX5 ∧ yX5_fail.cls ≠ "java/lang/invoke/MethodHandle" ∧ yX5_fail.cls ≠ "java/lang/invoke/VarHandle" ∧ (parseMethodDescriptor yX5_fail.desc).map (fun d => d.parameters.length) = some 1 := by decide +kernel
theorem hv_X5_isSign : yX5_isSign.cls = RX5 ∧ yX5_isSign.cls ≠ "java/lang/invoke/MethodHandle" ∧ yX5_isSign.cls ≠ "java/lang/invoke/VarHandle" ∧ (parseMethodDescriptor yX5_isSign.desc).map (fun d => d.parameters.length) = some 1 := by decide +kernel
theorem hv_X5_takeNumber : yX5_takeNumber.cls = RX5 ∧ yX5_takeNumber.cls ≠ "java/lang/invoke/MethodHandle" ∧ yX5_takeNumber.cls ≠ "java/lang/invoke/VarHandle" ∧ (parseMethodDescriptor yX5_takeNumber.desc).map (fun d => d.parameters.length) = some 2 := by decide +kernel
theorem hs_J9_floorMod_7cf53 : yJ9_floorMod_7cf53.cls ≠ "java/lang/invoke/MethodHandle" ∧ yJ9_floorMod_7cf53.cls ≠ "java/lang/invoke/VarHandle" ∧ (parseMethodDescriptor yJ9_floorMod_7cf53.desc).map (fun d => d.parameters.length) = some 2 := by decide +kernel
theorem hv_X3_copyFrom : yX3_copyFrom.cls = RX3 ∧ yX3_copyFrom.cls ≠ "java/lang/invoke/MethodHandle" ∧ yX3_copyFrom.cls ≠ "java/lang/invoke/VarHandle" ∧ (parseMethodDescriptor yX3_copyFrom.desc).map (fun d => d.parameters.length) = some 1 := by decide +kernel
theorem hv_X5_takeSigned : yX5_takeSigned.cls = RX5 ∧ yX5_takeSigned.cls ≠ "java/lang/invoke/MethodHandle" ∧ yX5_takeSigned.cls ≠ "java/lang/invoke/VarHandle" ∧ (parseMethodDescriptor yX5_takeSigned.desc).map (fun d => d.parameters.length) = some 0 := by decide +kernel
theorem hv_X3_append : yX3_append.cls = RX3 ∧ yX3_append.cls ≠ "java/lang/invoke/MethodHandle" ∧ yX3_append.cls ≠ "java/lang/invoke/VarHandle" ∧ (parseMethodDescriptor yX3_append.desc).map (fun d => d.parameters.length) = some 0 := by decide +kernel
theorem hv_X5_takeWord : yX5_takeWord.cls = RX5 ∧ yX5_takeWord.cls ≠ "java/lang/invoke/MethodHandle" ∧ yX5_takeWord.cls ≠ "java/lang/invoke/VarHandle" ∧ (parseMethodDescriptor yX5_takeWord.desc).map (fun d => d.parameters.length) = some 1 := by decide +kernel
theorem hv_X3_press : yX3_press.cls = RX3 ∧ yX3_press.cls ≠ "java/lang/invoke/MethodHandle" ∧ yX3_press.cls ≠ "java/lang/invoke/VarHandle" ∧ (parseMethodDescriptor yX3_press.desc).map (fun d => d.parameters.length) = some 2 := by decide +kernel
theorem hv_X4_readTube : yX4_readTube.cls = RX4 ∧ yX4_readTube.cls ≠ "java/lang/invoke/MethodHandle" ∧ yX4_readTube.cls ≠ "java/lang/invoke/VarHandle" ∧ (parseMethodDescriptor yX4_readTube.desc).map (fun d => d.parameters.length) = some 0 := by decide +kernel
theorem hv_X4_readLeg : yX4_readLeg.cls = RX4 ∧ yX4_readLeg.cls ≠ "java/lang/invoke/MethodHandle" ∧ yX4_readLeg.cls ≠ "java/lang/invoke/VarHandle" ∧ (parseMethodDescriptor yX4_readLeg.desc).map (fun d => d.parameters.length) = some 0 := by decide +kernel
theorem hv_X3_clear : yX3_clear.cls = RX3 ∧ yX3_clear.cls ≠ "java/lang/invoke/MethodHandle" ∧ yX3_clear.cls ≠ "java/lang/invoke/VarHandle" ∧ (parseMethodDescriptor yX3_clear.desc).map (fun d => d.parameters.length) = some 2 := by decide +kernel
theorem hv_X5_takeSign : yX5_takeSign.cls = RX5 ∧ yX5_takeSign.cls ≠ "java/lang/invoke/MethodHandle" ∧ yX5_takeSign.cls ≠ "java/lang/invoke/VarHandle" ∧ (parseMethodDescriptor yX5_takeSign.desc).map (fun d => d.parameters.length) = some 1 := by decide +kernel
theorem hv_X5_goesOn : yX5_goesOn.cls = RX5 ∧ yX5_goesOn.cls ≠ "java/lang/invoke/MethodHandle" ∧ yX5_goesOn.cls ≠ "java/lang/invoke/VarHandle" ∧ (parseMethodDescriptor yX5_goesOn.desc).map (fun d => d.parameters.length) = some 0 := by decide +kernel
theorem hv_X4_readClause : yX4_readClause.cls = RX4 ∧ yX4_readClause.cls ≠ "java/lang/invoke/MethodHandle" ∧ yX4_readClause.cls ≠ "java/lang/invoke/VarHandle" ∧ (parseMethodDescriptor yX4_readClause.desc).map (fun d => d.parameters.length) = some 0 := by decide +kernel
theorem hv_X5_hasRoomFor : yX5_hasRoomFor.cls = RX5 ∧ yX5_hasRoomFor.cls ≠ "java/lang/invoke/MethodHandle" ∧ yX5_hasRoomFor.cls ≠ "java/lang/invoke/VarHandle" ∧ (parseMethodDescriptor yX5_hasRoomFor.desc).map (fun d => d.parameters.length) = some 1 := by decide +kernel
theorem hv_X5_append : yX5_append.cls = RX5 ∧ yX5_append.cls ≠ "java/lang/invoke/MethodHandle" ∧ yX5_append.cls ≠ "java/lang/invoke/VarHandle" ∧ (parseMethodDescriptor yX5_append.desc).map (fun d => d.parameters.length) = some 1 := by decide +kernel
theorem hs_X7_requireWithin : yX7_requireWithin.cls ≠ "java/lang/invoke/MethodHandle" ∧ yX7_requireWithin.cls ≠ "java/lang/invoke/VarHandle" ∧ (parseMethodDescriptor yX7_requireWithin.desc).map (fun d => d.parameters.length) = some 3 := by decide +kernel
theorem hv_X5_begin : yX5_begin.cls = RX5 ∧ yX5_begin.cls ≠ "java/lang/invoke/MethodHandle" ∧ yX5_begin.cls ≠ "java/lang/invoke/VarHandle" ∧ (parseMethodDescriptor yX5_begin.desc).map (fun d => d.parameters.length) = some 1 := by decide +kernel
theorem hs_X4_init : yX4_init.cls ≠ "java/lang/invoke/MethodHandle" ∧ yX4_init.cls ≠ "java/lang/invoke/VarHandle" ∧ (parseMethodDescriptor yX4_init.desc).map (fun d => d.parameters.length) = some 2 := by decide +kernel
theorem hv_X4_read : yX4_read.cls = RX4 ∧ yX4_read.cls ≠ "java/lang/invoke/MethodHandle" ∧ yX4_read.cls ≠ "java/lang/invoke/VarHandle" ∧ (parseMethodDescriptor yX4_read.desc).map (fun d => d.parameters.length) = some 0 := by decide +kernel
theorem hv_X5_empty : yX5_empty.cls = RX5 ∧ yX5_empty.cls ≠ "java/lang/invoke/MethodHandle" ∧ yX5_empty.cls ≠ "java/lang/invoke/VarHandle" ∧ (parseMethodDescriptor yX5_empty.desc).map (fun d => d.parameters.length) = some 0 := by decide +kernel
theorem hv_X3_settle : yX3_settle.cls = RX3 ∧ yX3_settle.cls ≠ "java/lang/invoke/MethodHandle" ∧ yX3_settle.cls ≠ "java/lang/invoke/VarHandle" ∧ (parseMethodDescriptor yX3_settle.desc).map (fun d => d.parameters.length) = some 0 := by decide +kernel
theorem hv_X0_clear : yX0_clear.cls = RX0 ∧ yX0_clear.cls ≠ "java/lang/invoke/MethodHandle" ∧ yX0_clear.cls ≠ "java/lang/invoke/VarHandle" ∧ (parseMethodDescriptor yX0_clear.desc).map (fun d => d.parameters.length) = some 0 := by decide +kernel
theorem hv_X3_countInState : yX3_countInState.cls = RX3 ∧ yX3_countInState.cls ≠ "java/lang/invoke/MethodHandle" ∧ yX3_countInState.cls ≠ "java/lang/invoke/VarHandle" ∧ (parseMethodDescriptor yX3_countInState.desc).map (fun d => d.parameters.length) = some 1 := by decide +kernel
theorem hv_X3_countInLeg : yX3_countInLeg.cls = RX3 ∧ yX3_countInLeg.cls ≠ "java/lang/invoke/MethodHandle" ∧ yX3_countInLeg.cls ≠ "java/lang/invoke/VarHandle" ∧ (parseMethodDescriptor yX3_countInLeg.desc).map (fun d => d.parameters.length) = some 1 := by decide +kernel
theorem hv_X7_requirePoint : yX7_requirePoint.cls = RX7 ∧ yX7_requirePoint.cls ≠ "java/lang/invoke/MethodHandle" ∧ yX7_requirePoint.cls ≠ "java/lang/invoke/VarHandle" ∧ (parseMethodDescriptor yX7_requirePoint.desc).map (fun d => d.parameters.length) = some 1 := by decide +kernel
theorem hs_X7_requireLeg : yX7_requireLeg.cls ≠ "java/lang/invoke/MethodHandle" ∧ yX7_requireLeg.cls ≠ "java/lang/invoke/VarHandle" ∧ (parseMethodDescriptor yX7_requireLeg.desc).map (fun d => d.parameters.length) = some 1 := by decide +kernel
theorem hv_X7_requireTube : yX7_requireTube.cls = RX7 ∧ yX7_requireTube.cls ≠ "java/lang/invoke/MethodHandle" ∧ yX7_requireTube.cls ≠ "java/lang/invoke/VarHandle" ∧ (parseMethodDescriptor yX7_requireTube.desc).map (fun d => d.parameters.length) = some 1 := by decide +kernel
theorem hv_X3_numberOf : yX3_numberOf.cls = RX3 ∧ yX3_numberOf.cls ≠ "java/lang/invoke/MethodHandle" ∧ yX3_numberOf.cls ≠ "java/lang/invoke/VarHandle" ∧ (parseMethodDescriptor yX3_numberOf.desc).map (fun d => d.parameters.length) = some 2 := by decide +kernel
theorem hv_X0_keep : yX0_keep.cls = RX0 ∧ yX0_keep.cls ≠ "java/lang/invoke/MethodHandle" ∧ yX0_keep.cls ≠ "java/lang/invoke/VarHandle" ∧ (parseMethodDescriptor yX0_keep.desc).map (fun d => d.parameters.length) = some 1 := by decide +kernel
theorem hv_X3_remove : yX3_remove.cls = RX3 ∧ yX3_remove.cls ≠ "java/lang/invoke/MethodHandle" ∧ yX3_remove.cls ≠ "java/lang/invoke/VarHandle" ∧ (parseMethodDescriptor yX3_remove.desc).map (fun d => d.parameters.length) = some 1 := by decide +kernel
theorem hv_L_writes : yL_writes.cls = RL ∧ yL_writes.cls ≠ "java/lang/invoke/MethodHandle" ∧ yL_writes.cls ≠ "java/lang/invoke/VarHandle" ∧ (parseMethodDescriptor yL_writes.desc).map (fun d => d.parameters.length) = some 1 := by decide +kernel
theorem hv_X7_tube : yX7_tube.cls = RX7 ∧ yX7_tube.cls ≠ "java/lang/invoke/MethodHandle" ∧ yX7_tube.cls ≠ "java/lang/invoke/VarHandle" ∧ (parseMethodDescriptor yX7_tube.desc).map (fun d => d.parameters.length) = some 2 := by decide +kernel
theorem hv_X7_leg : yX7_leg.cls = RX7 ∧ yX7_leg.cls ≠ "java/lang/invoke/MethodHandle" ∧ yX7_leg.cls ≠ "java/lang/invoke/VarHandle" ∧ (parseMethodDescriptor yX7_leg.desc).map (fun d => d.parameters.length) = some 2 := by decide +kernel
theorem hv_X7_size : yX7_size.cls = RX7 ∧ yX7_size.cls ≠ "java/lang/invoke/MethodHandle" ∧ yX7_size.cls ≠ "java/lang/invoke/VarHandle" ∧ (parseMethodDescriptor yX7_size.desc).map (fun d => d.parameters.length) = some 1 := by decide +kernel
theorem hv_X7_account : yX7_account.cls = RX7 ∧ yX7_account.cls ≠ "java/lang/invoke/MethodHandle" ∧ yX7_account.cls ≠ "java/lang/invoke/VarHandle" ∧ (parseMethodDescriptor yX7_account.desc).map (fun d => d.parameters.length) = some 2 := by decide +kernel
theorem hs_L_run : yL_run.cls ≠ "java/lang/invoke/MethodHandle" ∧ yL_run.cls ≠ "java/lang/invoke/VarHandle" ∧ (parseMethodDescriptor yL_run.desc).map (fun d => d.parameters.length) = some 3 := by decide +kernel
theorem hv_X7_setPressure : yX7_setPressure.cls = RX7 ∧ yX7_setPressure.cls ≠ "java/lang/invoke/MethodHandle" ∧ yX7_setPressure.cls ≠ "java/lang/invoke/VarHandle" ∧ (parseMethodDescriptor yX7_setPressure.desc).map (fun d => d.parameters.length) = some 2 := by decide +kernel
theorem hv_X7_setReference : yX7_setReference.cls = RX7 ∧ yX7_setReference.cls ≠ "java/lang/invoke/MethodHandle" ∧ yX7_setReference.cls ≠ "java/lang/invoke/VarHandle" ∧ (parseMethodDescriptor yX7_setReference.desc).map (fun d => d.parameters.length) = some 1 := by decide +kernel
theorem hv_X7_sweep : yX7_sweep.cls = RX7 ∧ yX7_sweep.cls ≠ "java/lang/invoke/MethodHandle" ∧ yX7_sweep.cls ≠ "java/lang/invoke/VarHandle" ∧ (parseMethodDescriptor yX7_sweep.desc).map (fun d => d.parameters.length) = some 3 := by decide +kernel
theorem hv_X7_setSlant : yX7_setSlant.cls = RX7 ∧ yX7_setSlant.cls ≠ "java/lang/invoke/MethodHandle" ∧ yX7_setSlant.cls ≠ "java/lang/invoke/VarHandle" ∧ (parseMethodDescriptor yX7_setSlant.desc).map (fun d => d.parameters.length) = some 2 := by decide +kernel
theorem hv_X7_setMark : yX7_setMark.cls = RX7 ∧ yX7_setMark.cls ≠ "java/lang/invoke/MethodHandle" ∧ yX7_setMark.cls ≠ "java/lang/invoke/VarHandle" ∧ (parseMethodDescriptor yX7_setMark.desc).map (fun d => d.parameters.length) = some 1 := by decide +kernel
theorem hv_X7_setCurve : yX7_setCurve.cls = RX7 ∧ yX7_setCurve.cls ≠ "java/lang/invoke/MethodHandle" ∧ yX7_setCurve.cls ≠ "java/lang/invoke/VarHandle" ∧ (parseMethodDescriptor yX7_setCurve.desc).map (fun d => d.parameters.length) = some 2 := by decide +kernel
theorem hv_X7_mend : yX7_mend.cls = RX7 ∧ yX7_mend.cls ≠ "java/lang/invoke/MethodHandle" ∧ yX7_mend.cls ≠ "java/lang/invoke/VarHandle" ∧ (parseMethodDescriptor yX7_mend.desc).map (fun d => d.parameters.length) = some 1 := by decide +kernel
theorem hv_X7_refill : yX7_refill.cls = RX7 ∧ yX7_refill.cls ≠ "java/lang/invoke/MethodHandle" ∧ yX7_refill.cls ≠ "java/lang/invoke/VarHandle" ∧ (parseMethodDescriptor yX7_refill.desc).map (fun d => d.parameters.length) = some 2 := by decide +kernel
theorem hv_X7_addTube : yX7_addTube.cls = RX7 ∧ yX7_addTube.cls ≠ "java/lang/invoke/MethodHandle" ∧ yX7_addTube.cls ≠ "java/lang/invoke/VarHandle" ∧ (parseMethodDescriptor yX7_addTube.desc).map (fun d => d.parameters.length) = some 5 := by decide +kernel
theorem hv_X7_dropTube : yX7_dropTube.cls = RX7 ∧ yX7_dropTube.cls ≠ "java/lang/invoke/MethodHandle" ∧ yX7_dropTube.cls ≠ "java/lang/invoke/VarHandle" ∧ (parseMethodDescriptor yX7_dropTube.desc).map (fun d => d.parameters.length) = some 1 := by decide +kernel
theorem hv_X7_pressure : yX7_pressure.cls = RX7 ∧ yX7_pressure.cls ≠ "java/lang/invoke/MethodHandle" ∧ yX7_pressure.cls ≠ "java/lang/invoke/VarHandle" ∧ (parseMethodDescriptor yX7_pressure.desc).map (fun d => d.parameters.length) = some 1 := by decide +kernel
theorem hv_X7_room : yX7_room.cls = RX7 ∧ yX7_room.cls ≠ "java/lang/invoke/MethodHandle" ∧ yX7_room.cls ≠ "java/lang/invoke/VarHandle" ∧ (parseMethodDescriptor yX7_room.desc).map (fun d => d.parameters.length) = some 1 := by decide +kernel
theorem hv_X7_feed : yX7_feed.cls = RX7 ∧ yX7_feed.cls ≠ "java/lang/invoke/MethodHandle" ∧ yX7_feed.cls ≠ "java/lang/invoke/VarHandle" ∧ (parseMethodDescriptor yX7_feed.desc).map (fun d => d.parameters.length) = some 5 := by decide +kernel
theorem hs_L_areTubes : yL_areTubes.cls ≠ "java/lang/invoke/MethodHandle" ∧ yL_areTubes.cls ≠ "java/lang/invoke/VarHandle" ∧ (parseMethodDescriptor yL_areTubes.desc).map (fun d => d.parameters.length) = some 1 := by decide +kernel
theorem hs_L_isLevel : yL_isLevel.cls ≠ "java/lang/invoke/MethodHandle" ∧ yL_isLevel.cls ≠ "java/lang/invoke/VarHandle" ∧ (parseMethodDescriptor yL_isLevel.desc).map (fun d => d.parameters.length) = some 2 := by decide +kernel
theorem hs_L_cell : yL_cell.cls ≠ "java/lang/invoke/MethodHandle" ∧ yL_cell.cls ≠ "java/lang/invoke/VarHandle" ∧ (parseMethodDescriptor yL_cell.desc).map (fun d => d.parameters.length) = some 2 := by decide +kernel
theorem hs_L_acts : yL_acts.cls ≠ "java/lang/invoke/MethodHandle" ∧ yL_acts.cls ≠ "java/lang/invoke/VarHandle" ∧ (parseMethodDescriptor yL_acts.desc).map (fun d => d.parameters.length) = some 2 := by decide +kernel
theorem hv_L_spaced : yL_spaced.cls = RL ∧ yL_spaced.cls ≠ "java/lang/invoke/MethodHandle" ∧ yL_spaced.cls ≠ "java/lang/invoke/VarHandle" ∧ (parseMethodDescriptor yL_spaced.desc).map (fun d => d.parameters.length) = some 1 := by decide +kernel
theorem hv_L_feeds : yL_feeds.cls = RL ∧ yL_feeds.cls ≠ "java/lang/invoke/MethodHandle" ∧ yL_feeds.cls ≠ "java/lang/invoke/VarHandle" ∧ (parseMethodDescriptor yL_feeds.desc).map (fun d => d.parameters.length) = some 1 := by decide +kernel
theorem hv_X7_load : yX7_load.cls = RX7 ∧ yX7_load.cls ≠ "java/lang/invoke/MethodHandle" ∧ yX7_load.cls ≠ "java/lang/invoke/VarHandle" ∧ (parseMethodDescriptor yX7_load.desc).map (fun d => d.parameters.length) = some 1 := by decide +kernel
theorem hv_X7_errorPosition : yX7_errorPosition.cls = RX7 ∧ yX7_errorPosition.cls ≠ "java/lang/invoke/MethodHandle" ∧ yX7_errorPosition.cls ≠ "java/lang/invoke/VarHandle" ∧ (parseMethodDescriptor yX7_errorPosition.desc).map (fun d => d.parameters.length) = some 0 := by decide +kernel
theorem hs_X1_init : yX1_init.cls ≠ "java/lang/invoke/MethodHandle" ∧ yX1_init.cls ≠ "java/lang/invoke/VarHandle" ∧ (parseMethodDescriptor yX1_init.desc).map (fun d => d.parameters.length) = some 0 := by decide +kernel
theorem hs_X6_init : yX6_init.cls ≠ "java/lang/invoke/MethodHandle" ∧ yX6_init.cls ≠ "java/lang/invoke/VarHandle" ∧ (parseMethodDescriptor yX6_init.desc).map (fun d => d.parameters.length) = some 0 := by decide +kernel
theorem hs_J5_init_d00df : yJ5_init_d00df.cls ≠ "java/lang/invoke/MethodHandle" ∧ yJ5_init_d00df.cls ≠ "java/lang/invoke/VarHandle" ∧ (parseMethodDescriptor yJ5_init_d00df.desc).map (fun d => d.parameters.length) = some 1 := by decide +kernel
theorem hs_X3_init : yX3_init.cls ≠ "java/lang/invoke/MethodHandle" ∧ yX3_init.cls ≠ "java/lang/invoke/VarHandle" ∧ (parseMethodDescriptor yX3_init.desc).map (fun d => d.parameters.length) = some 0 := by decide +kernel
theorem hs_X0_init : yX0_init.cls ≠ "java/lang/invoke/MethodHandle" ∧ yX0_init.cls ≠ "java/lang/invoke/VarHandle" ∧ (parseMethodDescriptor yX0_init.desc).map (fun d => d.parameters.length) = some 0 := by decide +kernel
theorem hs_X5_init : yX5_init.cls ≠ "java/lang/invoke/MethodHandle" ∧ yX5_init.cls ≠ "java/lang/invoke/VarHandle" ∧ (parseMethodDescriptor yX5_init.desc).map (fun d => d.parameters.length) = some 0 := by decide +kernel
theorem hs_J4_init_da8c8 : yJ4_init_da8c8.cls ≠ "java/lang/invoke/MethodHandle" ∧ yJ4_init_da8c8.cls ≠ "java/lang/invoke/VarHandle" ∧ (parseMethodDescriptor yJ4_init_da8c8.desc).map (fun d => d.parameters.length) = some 0 := by decide +kernel
theorem hs_L_init : yL_init.cls ≠ "java/lang/invoke/MethodHandle" ∧ yL_init.cls ≠ "java/lang/invoke/VarHandle" ∧ (parseMethodDescriptor yL_init.desc).map (fun d => d.parameters.length) = some 0 := by decide +kernel
theorem hs_X7_init : yX7_init.cls ≠ "java/lang/invoke/MethodHandle" ∧ yX7_init.cls ≠ "java/lang/invoke/VarHandle" ∧ (parseMethodDescriptor yX7_init.desc).map (fun d => d.parameters.length) = some 0 := by decide +kernel
theorem hv_L_loads : yL_loads.cls = RL ∧ yL_loads.cls ≠ "java/lang/invoke/MethodHandle" ∧ yL_loads.cls ≠ "java/lang/invoke/VarHandle" ∧ (parseMethodDescriptor yL_loads.desc).map (fun d => d.parameters.length) = some 2 := by decide +kernel
theorem hs_L_holds : yL_holds.cls ≠ "java/lang/invoke/MethodHandle" ∧ yL_holds.cls ≠ "java/lang/invoke/VarHandle" ∧ (parseMethodDescriptor yL_holds.desc).map (fun d => d.parameters.length) = some 2 := by decide +kernel
