/-! more words -/
theorem q101 : Cond.initialized "java/lang/IllegalArgumentException" ∈ lw_all := lw_q 101 (by decide +kernel) rfl
theorem q106 : Cond.initialized "java/util/NoSuchElementException" ∈ lw_all := lw_q 106 (by decide +kernel) rfl
theorem q119 : Cond.instanceMethod Lib.objectInit ∈ lw_all := lw_q 119 (by decide +kernel) rfl
theorem q120 : Cond.code Lib.objectInit ⟨#[0xb1]⟩ 1 none ∈ lw_all := lw_q 120 (by decide +kernel) rfl
theorem q291 : Cond.fieldLink RX7 78 "SlantGauges$Tokens" "errorCode" "I" ∈ lw_all := lw_q 291 (by decide +kernel) rfl
theorem q560 : Cond.classLink RX7 310 eI ∈ lw_all := lw_q 560 (by decide +kernel) rfl
theorem q646 : Cond.classLink RX7 67 RX4 ∈ lw_all := lw_q 646 (by decide +kernel) rfl
theorem q647 : Cond.instantiable RX4 2 ∈ lw_all := lw_q 647 (by decide +kernel) rfl
theorem q648 : Cond.methodLink RX7 69 yX4_init ∈ lw_all := lw_q 648 (by decide +kernel) rfl
theorem q649 : Cond.instanceMethod yX4_init ∈ lw_all := lw_q 649 (by decide +kernel) rfl
theorem q650 : Cond.code yX4_init cX4_init 3 none ∈ lw_all := lw_q 650 (by decide +kernel) rfl
theorem q651 : Cond.methodLink RX4 3 Lib.objectInit ∈ lw_all := lw_q 651 (by decide +kernel) rfl
theorem q659 : Cond.methodLink RX7 72 yX4_read ∈ lw_all := lw_q 659 (by decide +kernel) rfl
theorem q660 : Cond.instanceMethod yX4_read ∈ lw_all := lw_q 660 (by decide +kernel) rfl
theorem q661 : Cond.selects RX4 yX4_read yX4_read ∈ lw_all := lw_q 661 (by decide +kernel) rfl
theorem q662 : Cond.code yX4_read cX4_read 4 none ∈ lw_all := lw_q 662 (by decide +kernel) rfl
theorem q759 : Cond.methodLink RX7 75 yX5_empty ∈ lw_all := lw_q 759 (by decide +kernel) rfl
theorem q760 : Cond.instanceMethod yX5_empty ∈ lw_all := lw_q 760 (by decide +kernel) rfl
theorem q761 : Cond.selects RX5 yX5_empty yX5_empty ∈ lw_all := lw_q 761 (by decide +kernel) rfl
theorem q762 : Cond.code yX5_empty cX5_empty 1 none ∈ lw_all := lw_q 762 (by decide +kernel) rfl
theorem q828 : Cond.classLink RX7 114 eN ∈ lw_all := lw_q 828 (by decide +kernel) rfl
theorem q1295 : Cond.classLink RX7 283 RX2 ∈ lw_all := lw_q 1295 (by decide +kernel) rfl
theorem q1296 : Cond.instantiable RX2 2 ∈ lw_all := lw_q 1296 (by decide +kernel) rfl
theorem q1297 : Cond.methodLink RX7 285 yX2_init ∈ lw_all := lw_q 1297 (by decide +kernel) rfl
theorem q1298 : Cond.instanceMethod yX2_init ∈ lw_all := lw_q 1298 (by decide +kernel) rfl
theorem q1299 : Cond.code yX2_init cX2_init 3 none ∈ lw_all := lw_q 1299 (by decide +kernel) rfl
theorem q1300 : Cond.methodLink RX2 3 Lib.objectInit ∈ lw_all := lw_q 1300 (by decide +kernel) rfl
theorem q1308 : Cond.methodLink RX7 286 yX2_wantsMany ∈ lw_all := lw_q 1308 (by decide +kernel) rfl
theorem q1309 : Cond.instanceMethod yX2_wantsMany ∈ lw_all := lw_q 1309 (by decide +kernel) rfl
theorem q1310 : Cond.selects RX2 yX2_wantsMany yX2_wantsMany ∈ lw_all := lw_q 1310 (by decide +kernel) rfl
theorem q1311 : Cond.code yX2_wantsMany cX2_wantsMany 2 (some .boolean) ∈ lw_all := lw_q 1311 (by decide +kernel) rfl
theorem q1367 : Cond.methodLink RX7 293 yX5_takeEnd ∈ lw_all := lw_q 1367 (by decide +kernel) rfl
theorem q1368 : Cond.instanceMethod yX5_takeEnd ∈ lw_all := lw_q 1368 (by decide +kernel) rfl
theorem q1369 : Cond.selects RX5 yX5_takeEnd yX5_takeEnd ∈ lw_all := lw_q 1369 (by decide +kernel) rfl
theorem q1370 : Cond.code yX5_takeEnd cX5_takeEnd 1 none ∈ lw_all := lw_q 1370 (by decide +kernel) rfl
theorem q1371 : Cond.methodLink RX7 296 yJ6_bitCount_0f7a4 ∈ lw_all := lw_q 1371 (by decide +kernel) rfl
theorem q1372 : Cond.static yJ6_bitCount_0f7a4 ∈ lw_all := lw_q 1372 (by decide +kernel) rfl
theorem q1373 : Cond.code yJ6_bitCount_0f7a4 cJ6_bitCount_0f7a4 1 (some .int) ∈ lw_all := lw_q 1373 (by decide +kernel) rfl
theorem q1377 : Cond.methodLink RX7 301 yX7_lowestBit ∈ lw_all := lw_q 1377 (by decide +kernel) rfl
theorem q1378 : Cond.static yX7_lowestBit ∈ lw_all := lw_q 1378 (by decide +kernel) rfl
theorem q1379 : Cond.code yX7_lowestBit cX7_lowestBit 2 (some .int) ∈ lw_all := lw_q 1379 (by decide +kernel) rfl
theorem hs_X4_init : yX4_init.cls ≠ "java/lang/invoke/MethodHandle" ∧ yX4_init.cls ≠ "java/lang/invoke/VarHandle" ∧ (parseMethodDescriptor yX4_init.desc).map (fun d => d.parameters.length) = some 2 := by decide +kernel
theorem hv_X4_read : yX4_read.cls = RX4 ∧ yX4_read.cls ≠ "java/lang/invoke/MethodHandle" ∧ yX4_read.cls ≠ "java/lang/invoke/VarHandle" ∧ (parseMethodDescriptor yX4_read.desc).map (fun d => d.parameters.length) = some 0 := by decide +kernel
theorem hv_X5_empty : yX5_empty.cls = RX5 ∧ yX5_empty.cls ≠ "java/lang/invoke/MethodHandle" ∧ yX5_empty.cls ≠ "java/lang/invoke/VarHandle" ∧ (parseMethodDescriptor yX5_empty.desc).map (fun d => d.parameters.length) = some 0 := by decide +kernel
theorem hs_X2_init : yX2_init.cls ≠ "java/lang/invoke/MethodHandle" ∧ yX2_init.cls ≠ "java/lang/invoke/VarHandle" ∧ (parseMethodDescriptor yX2_init.desc).map (fun d => d.parameters.length) = some 2 := by decide +kernel
theorem hv_X2_wantsMany : yX2_wantsMany.cls = RX2 ∧ yX2_wantsMany.cls ≠ "java/lang/invoke/MethodHandle" ∧ yX2_wantsMany.cls ≠ "java/lang/invoke/VarHandle" ∧ (parseMethodDescriptor yX2_wantsMany.desc).map (fun d => d.parameters.length) = some 0 := by decide +kernel
theorem hs_X2_test : yX2_test.cls ≠ "java/lang/invoke/MethodHandle" ∧ yX2_test.cls ≠ "java/lang/invoke/VarHandle" ∧ (parseMethodDescriptor yX2_test.desc).map (fun d => d.parameters.length) = some 1 := by decide +kernel
theorem hv_X5_takeEnd : yX5_takeEnd.cls = RX5 ∧ yX5_takeEnd.cls ≠ "java/lang/invoke/MethodHandle" ∧ yX5_takeEnd.cls ≠ "java/lang/invoke/VarHandle" ∧ (parseMethodDescriptor yX5_takeEnd.desc).map (fun d => d.parameters.length) = some 0 := by decide +kernel
theorem hs_X7_lowestBit : yX7_lowestBit.cls ≠ "java/lang/invoke/MethodHandle" ∧ yX7_lowestBit.cls ≠ "java/lang/invoke/VarHandle" ∧ (parseMethodDescriptor yX7_lowestBit.desc).map (fun d => d.parameters.length) = some 1 := by decide +kernel
theorem hs_J6_bitCount_0f7a4 : yJ6_bitCount_0f7a4.cls ≠ "java/lang/invoke/MethodHandle" ∧ yJ6_bitCount_0f7a4.cls ≠ "java/lang/invoke/VarHandle" ∧ (parseMethodDescriptor yJ6_bitCount_0f7a4.desc).map (fun d => d.parameters.length) = some 1 := by decide +kernel
