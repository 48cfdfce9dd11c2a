/-! WORDS: those that the walks use, by their places -/
theorem q89 : Cond.initialized RX1 ∈ lw_all := lw_q 89 (by decide +kernel) rfl
theorem q90 : Cond.initialized RX6 ∈ lw_all := lw_q 90 (by decide +kernel) rfl
theorem q102 : Cond.initialized "java/lang/Math" ∈ lw_all := lw_q 102 (by decide +kernel) rfl
theorem q133 : Cond.fieldLink RX1 26 "SlantGauges$Leg" "density" "I" ∈ lw_all := lw_q 133 (by decide +kernel) rfl
theorem q136 : Cond.fieldLink RX1 30 "SlantGauges$Leg" "area" "I" ∈ lw_all := lw_q 136 (by decide +kernel) rfl
theorem q139 : Cond.fieldLink RX1 33 "SlantGauges$Leg" "curve" "I" ∈ lw_all := lw_q 139 (by decide +kernel) rfl
theorem q142 : Cond.fieldLink RX1 13 "SlantGauges$Leg" "stock" "J" ∈ lw_all := lw_q 142 (by decide +kernel) rfl
theorem q145 : Cond.fieldLink RX1 17 "SlantGauges$Leg" "lost" "J" ∈ lw_all := lw_q 145 (by decide +kernel) rfl
theorem q148 : Cond.fieldLink RX1 20 "SlantGauges$Leg" "refilled" "J" ∈ lw_all := lw_q 148 (by decide +kernel) rfl
theorem q150 : Cond.fieldLink RX1 23 "SlantGauges$Leg" "level" "J" ∈ lw_all := lw_q 150 (by decide +kernel) rfl
theorem q176 : Cond.fieldLink RX6 9 "SlantGauges$Tube" "leg" "I" ∈ lw_all := lw_q 176 (by decide +kernel) rfl
theorem q179 : Cond.fieldLink RX6 15 "SlantGauges$Tube" "point" "I" ∈ lw_all := lw_q 179 (by decide +kernel) rfl
theorem q182 : Cond.fieldLink RX6 24 "SlantGauges$Tube" "bore" "I" ∈ lw_all := lw_q 182 (by decide +kernel) rfl
theorem q184 : Cond.fieldLink RX6 27 "SlantGauges$Tube" "slant" "I" ∈ lw_all := lw_q 184 (by decide +kernel) rfl
theorem q187 : Cond.fieldLink RX6 30 "SlantGauges$Tube" "length" "I" ∈ lw_all := lw_q 187 (by decide +kernel) rfl
theorem q189 : Cond.fieldLink RX6 18 "SlantGauges$Tube" "mark" "I" ∈ lw_all := lw_q 189 (by decide +kernel) rfl
theorem q193 : Cond.fieldLink RX6 21 "SlantGauges$Tube" "state" "I" ∈ lw_all := lw_q 193 (by decide +kernel) rfl
theorem q196 : Cond.fieldLink RX6 41 "SlantGauges$Tube" "pull" "I" ∈ lw_all := lw_q 196 (by decide +kernel) rfl
theorem q198 : Cond.fieldLink RX6 44 "SlantGauges$Tube" "meniscus" "I" ∈ lw_all := lw_q 198 (by decide +kernel) rfl
theorem q200 : Cond.fieldLink RX6 47 "SlantGauges$Tube" "column" "I" ∈ lw_all := lw_q 200 (by decide +kernel) rfl
theorem q357 : Cond.methodLink RX1 7 yX1_liquid ∈ lw_all := lw_q 357 (by decide +kernel) rfl
theorem q358 : Cond.instanceMethod yX1_liquid ∈ lw_all := lw_q 358 (by decide +kernel) rfl
theorem q359 : Cond.selects RX1 yX1_liquid yX1_liquid ∈ lw_all := lw_q 359 (by decide +kernel) rfl
theorem q360 : Cond.code yX1_liquid cX1_liquid 4 none ∈ lw_all := lw_q 360 (by decide +kernel) rfl
theorem q528 : Cond.methodLink RX6 33 yX6_stand ∈ lw_all := lw_q 528 (by decide +kernel) rfl
theorem q529 : Cond.instanceMethod yX6_stand ∈ lw_all := lw_q 529 (by decide +kernel) rfl
theorem q530 : Cond.selects RX6 yX6_stand yX6_stand ∈ lw_all := lw_q 530 (by decide +kernel) rfl
theorem q531 : Cond.code yX6_stand cX6_stand 3 none ∈ lw_all := lw_q 531 (by decide +kernel) rfl
theorem q532 : Cond.methodLink RX6 37 yX6_shape ∈ lw_all := lw_q 532 (by decide +kernel) rfl
theorem q533 : Cond.instanceMethod yX6_shape ∈ lw_all := lw_q 533 (by decide +kernel) rfl
theorem q534 : Cond.selects RX6 yX6_shape yX6_shape ∈ lw_all := lw_q 534 (by decide +kernel) rfl
theorem q535 : Cond.code yX6_shape cX6_shape 4 none ∈ lw_all := lw_q 535 (by decide +kernel) rfl
theorem q783 : Cond.methodLink RX6 50 yX6_fullColumn ∈ lw_all := lw_q 783 (by decide +kernel) rfl
theorem q784 : Cond.instanceMethod yX6_fullColumn ∈ lw_all := lw_q 784 (by decide +kernel) rfl
theorem q785 : Cond.selects RX6 yX6_fullColumn yX6_fullColumn ∈ lw_all := lw_q 785 (by decide +kernel) rfl
theorem q786 : Cond.code yX6_fullColumn cX6_fullColumn 1 (some .int) ∈ lw_all := lw_q 786 (by decide +kernel) rfl
theorem q799 : Cond.methodLink RX6 56 yX6_runAt ∈ lw_all := lw_q 799 (by decide +kernel) rfl
theorem q800 : Cond.instanceMethod yX6_runAt ∈ lw_all := lw_q 800 (by decide +kernel) rfl
theorem q801 : Cond.selects RX6 yX6_runAt yX6_runAt ∈ lw_all := lw_q 801 (by decide +kernel) rfl
theorem q802 : Cond.code yX6_runAt cX6_runAt 3 (some .long) ∈ lw_all := lw_q 802 (by decide +kernel) rfl
theorem q803 : Cond.constantLong RX6 54 (1000) ∈ lw_all := lw_q 803 (by decide +kernel) rfl
theorem q804 : Cond.methodLink RX6 60 Lib.MathLoose.min_long.x ∈ lw_all := lw_q 804 (by decide +kernel) rfl
theorem q805 : Cond.static Lib.MathLoose.min_long.x ∈ lw_all := lw_q 805 (by decide +kernel) rfl
theorem q806 : Cond.code Lib.MathLoose.min_long.x Lib.MathLoose.min_long.code 4 (some .long) ∈ lw_all := lw_q 806 (by decide +kernel) rfl
theorem q807 : Cond.methodLink RX6 66 Lib.MathLoose.max_long.x ∈ lw_all := lw_q 807 (by decide +kernel) rfl
theorem q808 : Cond.static Lib.MathLoose.max_long.x ∈ lw_all := lw_q 808 (by decide +kernel) rfl
theorem q809 : Cond.code Lib.MathLoose.max_long.x Lib.MathLoose.max_long.code 4 (some .long) ∈ lw_all := lw_q 809 (by decide +kernel) rfl
theorem hv_X6_stand : yX6_stand.cls = RX6 ∧ yX6_stand.cls ≠ "java/lang/invoke/MethodHandle" ∧ yX6_stand.cls ≠ "java/lang/invoke/VarHandle" ∧ (parseMethodDescriptor yX6_stand.desc).map (fun d => d.parameters.length) = some 2 := by decide +kernel
theorem hv_X6_shape : yX6_shape.cls = RX6 ∧ yX6_shape.cls ≠ "java/lang/invoke/MethodHandle" ∧ yX6_shape.cls ≠ "java/lang/invoke/VarHandle" ∧ (parseMethodDescriptor yX6_shape.desc).map (fun d => d.parameters.length) = some 3 := by decide +kernel
theorem hv_X6_fullColumn : yX6_fullColumn.cls = RX6 ∧ yX6_fullColumn.cls ≠ "java/lang/invoke/MethodHandle" ∧ yX6_fullColumn.cls ≠ "java/lang/invoke/VarHandle" ∧ (parseMethodDescriptor yX6_fullColumn.desc).map (fun d => d.parameters.length) = some 0 := by decide +kernel
theorem hv_X6_runAt : yX6_runAt.cls = RX6 ∧ yX6_runAt.cls ≠ "java/lang/invoke/MethodHandle" ∧ yX6_runAt.cls ≠ "java/lang/invoke/VarHandle" ∧ (parseMethodDescriptor yX6_runAt.desc).map (fun d => d.parameters.length) = some 1 := by decide +kernel
theorem hv_X1_liquid : yX1_liquid.cls = RX1 ∧ yX1_liquid.cls ≠ "java/lang/invoke/MethodHandle" ∧ yX1_liquid.cls ≠ "java/lang/invoke/VarHandle" ∧ (parseMethodDescriptor yX1_liquid.desc).map (fun d => d.parameters.length) = some 3 := by decide +kernel
