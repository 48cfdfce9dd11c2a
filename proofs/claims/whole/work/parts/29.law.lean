/-! LAW: its loop and its start -/
def AllOK (Inv : RowsS → GlbS → RowS → Prop) (P : RowsS) (G : GlbS) (M : RowS) : Prop :=
  (∀ a1 a2 a3 a4 a5 : Int32, OK_feed Inv P G M a1 a2 a3 a4 a5) ∧
  (∀ a1 : Int32, OK_load Inv P G M a1) ∧
  (OK_errorPosition Inv P G M) ∧
  (∀ a1 : Int32, OK_size Inv P G M a1) ∧
  (∀ a1 : Int32, OK_pressure Inv P G M a1) ∧
  (∀ a1 a2 : Int32, OK_leg Inv P G M a1 a2) ∧
  (∀ a1 a2 : Int32, OK_account Inv P G M a1 a2) ∧
  (∀ a1 a2 : Int32, OK_tube Inv P G M a1 a2) ∧
  (∀ a1 : Int32, OK_told Inv P G M a1) ∧
  (∀ a1 : Int32, OK_off Inv P G M a1) ∧
  (∀ a1 a2 : Int32, OK_difference Inv P G M a1 a2) ∧
  (OK_ring Inv P G M) ∧
  (∀ a1 : Int32, OK_room Inv P G M a1) ∧
  (OK_longest Inv P G M) ∧
  (OK_worst Inv P G M) ∧
  (∀ a1 a2 : Int32, OK_agree Inv P G M a1 a2) ∧
  (∀ a1 a2 : Int32, OK_wouldBreak Inv P G M a1 a2) ∧
  (∀ a1 a2 a3 : Int32, OK_readingWith Inv P G M a1 a2 a3) ∧
  (∀ a1 a2 : Int32, OK_breaksIn Inv P G M a1 a2) ∧
  (∀ a1 : Int32, OK_bestSlant Inv P G M a1) ∧
  (∀ a1 : Int32, OK_lostWith Inv P G M a1) ∧
  (OK_meanReading Inv P G M) ∧
  (OK_wholeShare Inv P G M) ∧
  (∀ a1 a2 : Int32, OK_setPressure Inv P G M a1 a2) ∧
  (∀ a1 : Int32, OK_setReference Inv P G M a1) ∧
  (∀ a1 a2 a3 : Int32, OK_sweep Inv P G M a1 a2 a3) ∧
  (∀ a1 a2 : Int32, OK_setSlant Inv P G M a1 a2) ∧
  (∀ a1 : Int32, OK_setMark Inv P G M a1) ∧
  (∀ a1 a2 : Int32, OK_setCurve Inv P G M a1 a2) ∧
  (∀ a1 : Int32, OK_mend Inv P G M a1) ∧
  (∀ a1 a2 : Int32, OK_refill Inv P G M a1 a2) ∧
  (∀ a1 a2 a3 a4 a5 : Int32, OK_addTube Inv P G M a1 a2 a3 a4 a5) ∧
  (∀ a1 : Int32, OK_dropTube Inv P G M a1) ∧
  (∀ a1 : Int32, OK_format Inv P G M a1) ∧
  (∀ a1 : Int32, OK_formattedByte Inv P G M a1) ∧
  (OK_undoCount Inv P G M) ∧
  (OK_undo Inv P G M) ∧
  (OK_saveSnapshot Inv P G M) ∧
  (OK_restoreSnapshot Inv P G M) ∧
  (∀ a1 : Int32, OK_query Inv P G M a1)
set_option maxRecDepth 100000 in
set_option maxHeartbeats 8000000 in
theorem law_turn {p : Program} {l : Launch} {e : Env} {s : State} {m : MethodId} {args : Array Value} {below : List Frame} {meth : Method} {c : Code} {Q : State → Prop} {D : va_G} {A : Nat → Prop} {ar : Nat → Nat → Nat} {ag : Nat → Nat} {ca : Nat → ClassId} {am : Nat → Nat} {ao b0 L : Nat} {xs : Nat → Int32} {Inv : RowsS → GlbS → RowS → Prop} {z : ZG} (K : MC D ca p s m args meth c cL_law 9 RL) (hl0 : l.stackTraces = false) (hA : ∀ q, s.heap.size ≤ q → A q) (hZ : ZF z A s s.heap) (hS : va_X b0 L xs s s.heap ∧ b0 < s.heap.size ∧ ¬ A b0) (hall : ∀ (P : RowsS) (G : GlbS) (M : RowS), Inv P G M → AllOK Inv P G M) {I : Int32} {cells slots : Nat} (hroom : cells + 1 ≤ 601024 ∧ slots + 6 ≤ 7293034) (hi : ∀ j : Nat, j < 6 → vp_in (I + nI j) L) {P : RowsS} {G : GlbS} {M : RowS} {O : Nat → Int64} {H : Heap} {locs : List Loc} {ls : Array Slot} (hI : Inv P G M) (X : RX D A (wL ar ag ca am P G M ao O) s.heap H locs) (hl : lv_has ls 9 [(0, .ref b0), (1, .ref (ag 0)), (2, .ref (am 0)), (3, .ref ao), (4, .int I)]) (kk : LwAt p l e s m args below meth c Q D A ar ag ca am ao b0 I Inv (cells + 1) (slots + 6) 2302) : W p l e room_1 s m args below meth c H locs cells slots Q (F0 m 33 ls []) := by
  have hx := K.1
  have hb := K.2.1
  have h0 : vp_in I L ∧ xs I.toNatClampNeg = xs I.toNatClampNeg := ⟨by have := hi 0 (by decide); rwa [show I + nI 0 = I from Int32.add_zero I] at this, rfl⟩
  have h1 : vp_in (I + 1) L ∧ xs (I + 1).toNatClampNeg = xs (I + 1).toNatClampNeg := ⟨hi 1 (by decide), rfl⟩
  have h2 : vp_in (I + 2) L ∧ xs (I + 2).toNatClampNeg = xs (I + 2).toNatClampNeg := ⟨hi 2 (by decide), rfl⟩
  have h3 : vp_in (I + 3) L ∧ xs (I + 3).toNatClampNeg = xs (I + 3).toNatClampNeg := ⟨hi 3 (by decide), rfl⟩
  have h4 : vp_in (I + 4) L ∧ xs (I + 4).toNatClampNeg = xs (I + 4).toNatClampNeg := ⟨hi 4 (by decide), rfl⟩
  have h5 : vp_in (I + 5) L ∧ xs (I + 5).toNatClampNeg = xs (I + 5).toNatClampNeg := ⟨hi 5 (by decide), rfl⟩
  obtain ⟨o_feed, o_load, o_errorPosition, o_size, o_pressure, o_leg, o_account, o_tube, o_told, o_off, o_difference, o_ring, o_room, o_longest, o_worst, o_agree, o_wouldBreak, o_readingWith, o_breaksIn, o_bestSlant, o_lostWith, o_meanReading, o_wholeShare, o_setPressure, o_setReference, o_sweep, o_setSlant, o_setMark, o_setCurve, o_mend, o_refill, o_addTube, o_dropTube, o_format, o_formattedByte, o_undoCount, o_undo, o_saveSnapshot, o_restoreSnapshot, o_query⟩ := hall P G M hI
  refine lv_aload_n hx hb dL_law_33 rfl (lv_at hl 0 rfl) ?_
  refine lv_iload hx hb dL_law_34 (lv_at hl 4 rfl) ?_
  refine x_sld K X hS h0 dL_law_36 ?_
  refine lv_bipush (v := 63) hx hb dL_law_37 (by decide) ?_
  refine lv_iand hx hb dL_law_39 ?_
  generalize (xs I.toNatClampNeg) &&& 63 = w
  by_cases c0 : w = 0
  · refine lv_tableIn (off := 176) (tgt := 216) hx hb dL_law_40 (by rw [c0]; decide) (by rw [c0]; decide) (by rw [c0]; decide) (by decide) ?_
    exact k_feed K hl0 hA hZ hS hroom h1 h2 h3 h4 h5 (o_feed _ _ _ _ _) X hl kk
  by_cases c1 : w = 1
  · refine lv_tableIn (off := 249) (tgt := 289) hx hb dL_law_40 (by rw [c1]; decide) (by rw [c1]; decide) (by rw [c1]; decide) (by decide) ?_
    exact k_load K hl0 hA hZ hS hroom h1 (o_load _) X hl kk
  by_cases c2 : w = 2
  · refine lv_tableIn (off := 305) (tgt := 345) hx hb dL_law_40 (by rw [c2]; decide) (by rw [c2]; decide) (by rw [c2]; decide) (by decide) ?_
    exact k_errorPosition K hl0 hA hZ hS hroom (o_errorPosition) X hl kk
  by_cases c3 : w = 3
  · refine lv_tableIn (off := 318) (tgt := 358) hx hb dL_law_40 (by rw [c3]; decide) (by rw [c3]; decide) (by rw [c3]; decide) (by decide) ?_
    exact k_size K hl0 hA hZ hS hroom h1 (o_size _) X hl kk
  by_cases c4 : w = 4
  · refine lv_tableIn (off := 374) (tgt := 414) hx hb dL_law_40 (by rw [c4]; decide) (by rw [c4]; decide) (by rw [c4]; decide) (by decide) ?_
    exact k_pressure K hl0 hA hZ hS hroom h1 (o_pressure _) X hl kk
  by_cases c5 : w = 5
  · refine lv_tableIn (off := 430) (tgt := 470) hx hb dL_law_40 (by rw [c5]; decide) (by rw [c5]; decide) (by rw [c5]; decide) (by decide) ?_
    exact k_leg K hl0 hA hZ hS hroom h1 h2 (o_leg _ _) X hl kk
  by_cases c6 : w = 6
  · refine lv_tableIn (off := 498) (tgt := 538) hx hb dL_law_40 (by rw [c6]; decide) (by rw [c6]; decide) (by rw [c6]; decide) (by decide) ?_
    exact k_account K hl0 hA hZ hS hroom h1 h2 (o_account _ _) X hl kk
  by_cases c7 : w = 7
  · refine lv_tableIn (off := 565) (tgt := 605) hx hb dL_law_40 (by rw [c7]; decide) (by rw [c7]; decide) (by rw [c7]; decide) (by decide) ?_
    exact k_tube K hl0 hA hZ hS hroom h1 h2 (o_tube _ _) X hl kk
  by_cases c8 : w = 8
  · refine lv_tableIn (off := 633) (tgt := 673) hx hb dL_law_40 (by rw [c8]; decide) (by rw [c8]; decide) (by rw [c8]; decide) (by decide) ?_
    exact k_told K hl0 hA hZ hS hroom h1 (o_told _) X hl kk
  by_cases c9 : w = 9
  · refine lv_tableIn (off := 689) (tgt := 729) hx hb dL_law_40 (by rw [c9]; decide) (by rw [c9]; decide) (by rw [c9]; decide) (by decide) ?_
    exact k_off K hl0 hA hZ hS hroom h1 (o_off _) X hl kk
  by_cases c10 : w = 10
  · refine lv_tableIn (off := 745) (tgt := 785) hx hb dL_law_40 (by rw [c10]; decide) (by rw [c10]; decide) (by rw [c10]; decide) (by decide) ?_
    exact k_difference K hl0 hA hZ hS hroom h1 h2 (o_difference _ _) X hl kk
  by_cases c11 : w = 11
  · refine lv_tableIn (off := 813) (tgt := 853) hx hb dL_law_40 (by rw [c11]; decide) (by rw [c11]; decide) (by rw [c11]; decide) (by decide) ?_
    exact k_ring K hl0 hA hZ hS hroom (o_ring) X hl kk
  by_cases c12 : w = 12
  · refine lv_tableIn (off := 826) (tgt := 866) hx hb dL_law_40 (by rw [c12]; decide) (by rw [c12]; decide) (by rw [c12]; decide) (by decide) ?_
    exact k_room K hl0 hA hZ hS hroom h1 (o_room _) X hl kk
  by_cases c13 : w = 13
  · refine lv_tableIn (off := 882) (tgt := 922) hx hb dL_law_40 (by rw [c13]; decide) (by rw [c13]; decide) (by rw [c13]; decide) (by decide) ?_
    exact k_longest K hl0 hA hZ hS hroom (o_longest) X hl kk
  by_cases c14 : w = 14
  · refine lv_tableIn (off := 895) (tgt := 935) hx hb dL_law_40 (by rw [c14]; decide) (by rw [c14]; decide) (by rw [c14]; decide) (by decide) ?_
    exact k_worst K hl0 hA hZ hS hroom (o_worst) X hl kk
  by_cases c15 : w = 15
  · refine lv_tableIn (off := 908) (tgt := 948) hx hb dL_law_40 (by rw [c15]; decide) (by rw [c15]; decide) (by rw [c15]; decide) (by decide) ?_
    exact k_agree K hl0 hA hZ hS hroom h1 h2 (o_agree _ _) X hl kk
  by_cases c16 : w = 16
  · refine lv_tableIn (off := 983) (tgt := 1023) hx hb dL_law_40 (by rw [c16]; decide) (by rw [c16]; decide) (by rw [c16]; decide) (by decide) ?_
    exact k_wouldBreak K hl0 hA hZ hS hroom h1 h2 (o_wouldBreak _ _) X hl kk
  by_cases c17 : w = 17
  · refine lv_tableIn (off := 1051) (tgt := 1091) hx hb dL_law_40 (by rw [c17]; decide) (by rw [c17]; decide) (by rw [c17]; decide) (by decide) ?_
    exact k_readingWith K hl0 hA hZ hS hroom h1 h2 h3 (o_readingWith _ _ _) X hl kk
  by_cases c18 : w = 18
  · refine lv_tableIn (off := 1131) (tgt := 1171) hx hb dL_law_40 (by rw [c18]; decide) (by rw [c18]; decide) (by rw [c18]; decide) (by decide) ?_
    exact k_breaksIn K hl0 hA hZ hS hroom h1 h2 (o_breaksIn _ _) X hl kk
  by_cases c19 : w = 19
  · refine lv_tableIn (off := 1199) (tgt := 1239) hx hb dL_law_40 (by rw [c19]; decide) (by rw [c19]; decide) (by rw [c19]; decide) (by decide) ?_
    exact k_bestSlant K hl0 hA hZ hS hroom h1 (o_bestSlant _) X hl kk
  by_cases c20 : w = 20
  · refine lv_tableIn (off := 1255) (tgt := 1295) hx hb dL_law_40 (by rw [c20]; decide) (by rw [c20]; decide) (by rw [c20]; decide) (by decide) ?_
    exact k_lostWith K hl0 hA hZ hS hroom h1 (o_lostWith _) X hl kk
  by_cases c21 : w = 21
  · refine lv_tableIn (off := 1311) (tgt := 1351) hx hb dL_law_40 (by rw [c21]; decide) (by rw [c21]; decide) (by rw [c21]; decide) (by decide) ?_
    exact k_meanReading K hl0 hA hZ hS hroom (o_meanReading) X hl kk
  by_cases c22 : w = 22
  · refine lv_tableIn (off := 1352) (tgt := 1392) hx hb dL_law_40 (by rw [c22]; decide) (by rw [c22]; decide) (by rw [c22]; decide) (by decide) ?_
    exact k_wholeShare K hl0 hA hZ hS hroom (o_wholeShare) X hl kk
  by_cases c23 : w = 23
  · refine lv_tableIn (off := 1395) (tgt := 1435) hx hb dL_law_40 (by rw [c23]; decide) (by rw [c23]; decide) (by rw [c23]; decide) (by decide) ?_
    exact k_setPressure K hl0 hA hZ hS hroom h1 h2 (o_setPressure _ _) X hl kk
  by_cases c24 : w = 24
  · refine lv_tableIn (off := 1463) (tgt := 1503) hx hb dL_law_40 (by rw [c24]; decide) (by rw [c24]; decide) (by rw [c24]; decide) (by decide) ?_
    exact k_setReference K hl0 hA hZ hS hroom h1 (o_setReference _) X hl kk
  by_cases c25 : w = 25
  · refine lv_tableIn (off := 1519) (tgt := 1559) hx hb dL_law_40 (by rw [c25]; decide) (by rw [c25]; decide) (by rw [c25]; decide) (by decide) ?_
    exact k_sweep K hl0 hA hZ hS hroom h1 h2 h3 (o_sweep _ _ _) X hl kk
  by_cases c26 : w = 26
  · refine lv_tableIn (off := 1599) (tgt := 1639) hx hb dL_law_40 (by rw [c26]; decide) (by rw [c26]; decide) (by rw [c26]; decide) (by decide) ?_
    exact k_setSlant K hl0 hA hZ hS hroom h1 h2 (o_setSlant _ _) X hl kk
  by_cases c27 : w = 27
  · refine lv_tableIn (off := 1667) (tgt := 1707) hx hb dL_law_40 (by rw [c27]; decide) (by rw [c27]; decide) (by rw [c27]; decide) (by decide) ?_
    exact k_setMark K hl0 hA hZ hS hroom h1 (o_setMark _) X hl kk
  by_cases c28 : w = 28
  · refine lv_tableIn (off := 1723) (tgt := 1763) hx hb dL_law_40 (by rw [c28]; decide) (by rw [c28]; decide) (by rw [c28]; decide) (by decide) ?_
    exact k_setCurve K hl0 hA hZ hS hroom h1 h2 (o_setCurve _ _) X hl kk
  by_cases c29 : w = 29
  · refine lv_tableIn (off := 1791) (tgt := 1831) hx hb dL_law_40 (by rw [c29]; decide) (by rw [c29]; decide) (by rw [c29]; decide) (by decide) ?_
    exact k_mend K hl0 hA hZ hS hroom h1 (o_mend _) X hl kk
  by_cases c30 : w = 30
  · refine lv_tableIn (off := 1847) (tgt := 1887) hx hb dL_law_40 (by rw [c30]; decide) (by rw [c30]; decide) (by rw [c30]; decide) (by decide) ?_
    exact k_refill K hl0 hA hZ hS hroom h1 h2 (o_refill _ _) X hl kk
  by_cases c31 : w = 31
  · refine lv_tableIn (off := 1915) (tgt := 1955) hx hb dL_law_40 (by rw [c31]; decide) (by rw [c31]; decide) (by rw [c31]; decide) (by decide) ?_
    exact k_addTube K hl0 hA hZ hS hroom h1 h2 h3 h4 h5 (o_addTube _ _ _ _ _) X hl kk
  by_cases c32 : w = 32
  · refine lv_tableIn (off := 2019) (tgt := 2059) hx hb dL_law_40 (by rw [c32]; decide) (by rw [c32]; decide) (by rw [c32]; decide) (by decide) ?_
    exact k_dropTube K hl0 hA hZ hS hroom h1 (o_dropTube _) X hl kk
  by_cases c33 : w = 33
  · refine lv_tableIn (off := 2075) (tgt := 2115) hx hb dL_law_40 (by rw [c33]; decide) (by rw [c33]; decide) (by rw [c33]; decide) (by decide) ?_
    exact k_format K hl0 hA hZ hS hroom h1 (o_format _) X hl kk
  by_cases c34 : w = 34
  · refine lv_tableIn (off := 2131) (tgt := 2171) hx hb dL_law_40 (by rw [c34]; decide) (by rw [c34]; decide) (by rw [c34]; decide) (by decide) ?_
    exact k_formattedByte K hl0 hA hZ hS hroom h1 (o_formattedByte _) X hl kk
  by_cases c35 : w = 35
  · refine lv_tableIn (off := 2156) (tgt := 2196) hx hb dL_law_40 (by rw [c35]; decide) (by rw [c35]; decide) (by rw [c35]; decide) (by decide) ?_
    exact k_undoCount K hl0 hA hZ hS hroom (o_undoCount) X hl kk
  by_cases c36 : w = 36
  · refine lv_tableIn (off := 2169) (tgt := 2209) hx hb dL_law_40 (by rw [c36]; decide) (by rw [c36]; decide) (by rw [c36]; decide) (by decide) ?_
    exact k_undo K hl0 hA hZ hS hroom (o_undo) X hl kk
  by_cases c37 : w = 37
  · refine lv_tableIn (off := 2182) (tgt := 2222) hx hb dL_law_40 (by rw [c37]; decide) (by rw [c37]; decide) (by rw [c37]; decide) (by decide) ?_
    exact k_saveSnapshot K hl0 hA hZ hS hroom (o_saveSnapshot) X hl kk
  by_cases c38 : w = 38
  · refine lv_tableIn (off := 2193) (tgt := 2233) hx hb dL_law_40 (by rw [c38]; decide) (by rw [c38]; decide) (by rw [c38]; decide) (by decide) ?_
    exact k_restoreSnapshot K hl0 hA hZ hS hroom (o_restoreSnapshot) X hl kk
  by_cases c39 : w = 39
  · refine lv_tableIn (off := 2206) (tgt := 2246) hx hb dL_law_40 (by rw [c39]; decide) (by rw [c39]; decide) (by rw [c39]; decide) (by decide) ?_
    exact k_query K hl0 hA hZ hS hroom h1 (o_query _) X hl kk
  refine lv_tableOut (tgt := 2302) hx hb dL_law_40 (by have g0 := lv_neT (a := 0) c0 (by decide); have g1 := lv_neT (a := 1) c1 (by decide); have g2 := lv_neT (a := 2) c2 (by decide); have g3 := lv_neT (a := 3) c3 (by decide); have g4 := lv_neT (a := 4) c4 (by decide); have g5 := lv_neT (a := 5) c5 (by decide); have g6 := lv_neT (a := 6) c6 (by decide); have g7 := lv_neT (a := 7) c7 (by decide); have g8 := lv_neT (a := 8) c8 (by decide); have g9 := lv_neT (a := 9) c9 (by decide); have g10 := lv_neT (a := 10) c10 (by decide); have g11 := lv_neT (a := 11) c11 (by decide); have g12 := lv_neT (a := 12) c12 (by decide); have g13 := lv_neT (a := 13) c13 (by decide); have g14 := lv_neT (a := 14) c14 (by decide); have g15 := lv_neT (a := 15) c15 (by decide); have g16 := lv_neT (a := 16) c16 (by decide); have g17 := lv_neT (a := 17) c17 (by decide); have g18 := lv_neT (a := 18) c18 (by decide); have g19 := lv_neT (a := 19) c19 (by decide); have g20 := lv_neT (a := 20) c20 (by decide); have g21 := lv_neT (a := 21) c21 (by decide); have g22 := lv_neT (a := 22) c22 (by decide); have g23 := lv_neT (a := 23) c23 (by decide); have g24 := lv_neT (a := 24) c24 (by decide); have g25 := lv_neT (a := 25) c25 (by decide); have g26 := lv_neT (a := 26) c26 (by decide); have g27 := lv_neT (a := 27) c27 (by decide); have g28 := lv_neT (a := 28) c28 (by decide); have g29 := lv_neT (a := 29) c29 (by decide); have g30 := lv_neT (a := 30) c30 (by decide); have g31 := lv_neT (a := 31) c31 (by decide); have g32 := lv_neT (a := 32) c32 (by decide); have g33 := lv_neT (a := 33) c33 (by decide); have g34 := lv_neT (a := 34) c34 (by decide); have g35 := lv_neT (a := 35) c35 (by decide); have g36 := lv_neT (a := 36) c36 (by decide); have g37 := lv_neT (a := 37) c37 (by decide); have g38 := lv_neT (a := 38) c38 (by decide); have g39 := lv_neT (a := 39) c39 (by decide); omega) (by decide) ?_
  exact w_widen (Nat.le_add_right cells 1) (Nat.le_add_right slots 6) (kk P G M O H locs ls hI X hl)
theorem nI_sub6 {L i : Nat} (hL : L ≤ 3072) (hi : i ≤ 4000) : (nI L - 6 < nI i ↔ L < i + 6) := by
  have e1 : (nI L).toInt = (L : Int) := nI_toInt (by omega)
  have e2 : (nI i).toInt = (i : Int) := nI_toInt (by omega)
  have e3 : (nI L - 6).toInt = (L : Int) - 6 := by
    rw [Int32.toInt_sub, e1]
    show ((L : Int) - 6).bmod (2 ^ 32) = _
    rw [Int.bmod_def]; omega
  rw [Int32.lt_iff_toInt_lt, e2, e3]
  omega
theorem lnI_add {i j : Nat} (h : i + j ≤ 100000) : nI i + nI j = nI (i + j) := by
  apply Int32.toInt_inj.mp
  rw [Int32.toInt_add, nI_toInt (by omega), nI_toInt (by omega), nI_toInt (by omega), Int.bmod_def]
  omega
theorem lnI_in {L i : Nat} (h : i < L) (hL : L ≤ 100000) : vp_in (nI i) L := vp_in_iff.mpr (by rw [nI_toInt (by omega)]; omega)
set_option maxRecDepth 100000 in
set_option maxHeartbeats 4000000 in
theorem law_loop {p : Program} {l : Launch} {e : Env} {s : State} {m : MethodId} {args : Array Value} {below : List Frame} {meth : Method} {c : Code} {Q : State → Prop} {D : va_G} {A : Nat → Prop} {ar : Nat → Nat → Nat} {ag : Nat → Nat} {ca : Nat → ClassId} {am : Nat → Nat} {ao b0 L : Nat} {xs : Nat → Int32} {Inv : RowsS → GlbS → RowS → Prop} {z : ZG} (K : MC D ca p s m args meth c cL_law 9 RL) (hl0 : l.stackTraces = false) (hA : ∀ q, s.heap.size ≤ q → A q) (hZ : ZF z A s s.heap) (hS : va_X b0 L xs s s.heap ∧ b0 < s.heap.size ∧ ¬ A b0) (hall : ∀ (P : RowsS) (G : GlbS) (M : RowS), Inv P G M → AllOK Inv P G M) (hL : L ≤ 3072) (kend : ∀ (H : Heap) (locs : List Loc) (ls : Array Slot) (ws : va_W), RX D A ws s.heap H locs → lv_has ls 9 [] → W p l e room_1 s m args below meth c H locs 601024 7293034 Q (F0 m 2308 ls [])) : ∀ (d i : Nat) (cells slots : Nat), i ≤ L + 6 → d + i = L + 6 → cells ≤ 300 + i → slots ≤ 6000 + 6 * i → LwAt p l e s m args below meth c Q D A ar ag ca am ao b0 (nI i) Inv cells slots 23 := by
  have hx := K.1
  have hb := K.2.1
  intro d
  induction d using Nat.strongRecOn with
  | ind d ih =>
    intro i cells slots hi hd hc hs P G M O H locs ls hI X hl
    refine lv_iload hx hb dL_law_23 (lv_at hl 4 rfl) ?_
    refine lv_aload_n hx hb dL_law_25 rfl (lv_at hl 0 rfl) ?_
    refine va_slen hx hb hS.1 hS.2.1 hS.2.2 X.2.2 dL_law_26 ?_
    refine lv_bipush (v := 6) hx hb dL_law_27 (by decide) ?_
    refine lv_isub hx hb dL_law_29 ?_
    refine lv_icmp_gt (tgt := 2308) hx hb dL_law_30 (by decide) (fun c1 => ?_) (fun c1 => ?_)
    · exact w_widen (by omega) (by omega) (kend H locs ls _ X (lv_sub hl [] rfl))
    · have h6 : ¬ L < i + 6 := fun q => c1 ((nI_sub6 hL (by omega)).mpr q)
      refine law_turn K hl0 hA hZ hS hall (by omega) (fun j hj => by rw [lnI_add (by omega)]; exact lnI_in (by omega) (by omega)) hI X hl ?_
      intro P G M O H locs ls hI X hl
      refine lv_iinc (v := nI (i + 6)) (lv' := [(4, .int (nI (i + 6))), (0, .ref b0), (1, .ref (ag 0)), (2, .ref (am 0)), (3, .ref ao)]) hx hb dL_law_2302 hl (k := 4) rfl (by rw [← lnI_add (by omega)]; rfl) (by decide) rfl (fun ls hl => ?_)
      refine lv_goto (tgt := 23) hx hb dL_law_2305 (by decide) ?_
      exact ih (d - 6) (by omega) (i + 6) (cells + 1) (slots + 6) (by omega) (by omega) (by omega) (by omega) P G M O H locs ls hI X (lv_sub hl [1, 2, 3, 4, 0] rfl)
