-- L_load
abbrev rm_L_load : Room := { frames := 9, cells := 1, slots := 6, locals := 222 }
set_option maxRecDepth 100000 in
set_option maxHeartbeats 4000000 in
theorem n_L_load (l : Launch) (D : va_G) (ca : Nat → ClassId) (ar : Nat → Nat → Nat) (ag : Nat → Nat) (z : ZG) (n : Nat) (P : RowsS) (G : GlbS) (ys : va_W) (ao : Nat) (O : Nat → Int64) (a1 : Int32) (res : Int32) (P' : RowsS) (G' : GlbS) (h0 : f_X7_load n P G a1 = some (res, P', G')) (sz : Nat) : Met l yL_load (Cond.codeWith yL_load cL_load 4 (some .int) [(0, 9, 12, 13)] :: lw_all) rm_L_load (PCz z D ca (wC ar ag ca P G ++ (ys ++ [(ao, oc ca O)])) sz [.ref (ag 0), .int a1, .ref ao]) (QMw D (wC ar ag ca P G ++ (ys ++ [(ao, oc ca O)])) (wC ar ag ca P' G' ++ (ys ++ [(ao, oc ca (va_up O 0 res.toInt64))])) sz (some (.int 0))) 1 6 (AL (wC ar ag ca P G ++ (ys ++ [(ao, oc ca O)])) sz) := by
  refine met_h (by decide) (Nat.le_of_ble_eq_true rfl) (fun p e s m args below meth c K htab hr0 hZ X hsz ls hl => ?_)
  have K : MC D ca p s m args meth c cL_load 4 RL := K
  have hx := K.1
  have hb := K.2.1
  have hl : lv_has ls 4 [(0, .ref (ag 0)), (1, .int a1), (2, .ref ao)] := hl
  generalize hQ : MQ below _ args s 1 6 _ = Q
  refine lv_aload_n hx hb dL_load_0 rfl (lv_at hl 2 rfl) ?_
  refine lv_iconst (v := 0) hx hb dL_load_1 (by decide) ?_
  refine lv_aload_n hx hb dL_load_2 rfl (lv_at hl 0 rfl) ?_
  refine lv_iload_n hx hb dL_load_3 rfl (lv_at hl 1 rfl) ?_
  have kx := m_X7_load l D ca ar ag z n P G (ys ++ [(ao, oc ca O)]) a1 res P' G' h0 s.heap.size
  refine z_callVg K hZ X rfl wC_fstx kx hl.1 1 q553 q554 q555 q87 q556 hv_X7_load ⟨⟨Nat.le_of_ble_eq_true rfl, Nat.le_of_ble_eq_true rfl⟩, rfl, rfl⟩ (z_recvw K X (pl_glb (k := 0) (by decide)) rfl rfl) rfl rfl (Nat.le_of_ble_eq_true rfl) dL_load_4 ⟨Nat.le_of_ble_eq_true rfl, Nat.le_of_ble_eq_true rfl⟩ rfl (fun H locs X => ?_)
  refine lv_i2l hx hb dL_load_7 rfl ?_
  refine w_last K X (241 + ys.length) ctor_atw (vp_in_iff.mpr (by decide)) (ctor_set (q' := (ao, oc ca (va_up O 0 res.toInt64)))) dL_load_8 (fun H locs X => ?_)
  refine lv_goto (tgt := 15) hx hb dL_load_9 (by decide) ?_
  refine lv_iconst (v := 0) hx hb dL_load_15 (by decide) ?_
  subst hQ
  refine w_widen (k := 1) (n := 6) (Nat.le_of_ble_eq_true rfl) (Nat.le_of_ble_eq_true rfl) ?_
  exact w_iret K hr0 X xs_fst hsz dL_load_16
set_option maxRecDepth 100000 in
set_option maxHeartbeats 4000000 in
theorem e2_L_load (l : Launch) (D : va_G) (ca : Nat → ClassId) (ar : Nat → Nat → Nat) (ag : Nat → Nat) (z : ZG) (hl0 : l.stackTraces = false) (P : RowsS) (G : GlbS) (ys : va_W) (ao : Nat) (O : Nat → Int64) (a1 : Int32) (h0 : t_X7_load P G a1 = some 2) (sz : Nat) : Met l yL_load (Cond.codeWith yL_load cL_load 4 (some .int) [(0, 9, 12, 13)] :: lw_all) rm_L_load (PCz z D ca (wC ar ag ca P G ++ (ys ++ [(ao, oc ca O)])) sz [.ref (ag 0), .int a1, .ref ao]) (QMw D (wC ar ag ca P G ++ (ys ++ [(ao, oc ca O)])) (wC ar ag ca P G ++ (ys ++ [(ao, oc ca O)])) sz (some (.int 1))) 1 6 (AL (wC ar ag ca P G ++ (ys ++ [(ao, oc ca O)])) sz) := by
  refine met_h (by decide) (Nat.le_of_ble_eq_true rfl) (fun p e s m args below meth c K htab hr0 hZ X hsz ls hl => ?_)
  have K : MC D ca p s m args meth c cL_load 4 RL := K
  have hx := K.1
  have hb := K.2.1
  have hl : lv_has ls 4 [(0, .ref (ag 0)), (1, .int a1), (2, .ref ao)] := hl
  generalize hQ : MQ below _ args s 1 6 _ = Q
  refine lv_aload_n hx hb dL_load_0 rfl (lv_at hl 2 rfl) ?_
  refine lv_iconst (v := 0) hx hb dL_load_1 (by decide) ?_
  refine lv_aload_n hx hb dL_load_2 rfl (lv_at hl 0 rfl) ?_
  refine lv_iload_n hx hb dL_load_3 rfl (lv_at hl 1 rfl) ?_
  have kx := x_X7_load l D ca ar ag z hl0 P G (ys ++ [(ao, oc ca O)]) a1 2 (by decide) h0 s.heap.size
  refine z_xcatchV (E := eI) K hZ X rfl kx hl.1 1 q553 q554 q555 q87 q556 hv_X7_load ⟨⟨Nat.le_of_ble_eq_true rfl, Nat.le_of_ble_eq_true rfl⟩, rfl, rfl⟩ (z_recvw K X (pl_glb (k := 0) (by decide)) rfl rfl) rfl rfl (Nat.le_of_ble_eq_true rfl) dL_load_4 ⟨Nat.le_of_ble_eq_true rfl, Nat.le_of_ble_eq_true rfl⟩ [] ⟨0, 9, 12, 13⟩ [] (htab.trans rfl) (fun _ h => nomatch h) (by decide) (by decide) q552 (List.mem_of_getElem? (i := 1) rfl) (fun q H locs X => ?_)
  refine lv_astore_n (lv' := [(3, .ref q), (0, .ref (ag 0)), (1, .int a1), (2, .ref ao)]) hx hb dL_load_12 rfl hl (by decide) rfl (fun ls hl => ?_)
  refine lv_iconst (v := 1) hx hb dL_load_13 (by decide) ?_
  subst hQ
  exact w_iret K hr0 X rfl hsz dL_load_14
-- L_size
abbrev rm_L_size : Room := { frames := 7, cells := 1, slots := 6, locals := 104 }
set_option maxRecDepth 100000 in
set_option maxHeartbeats 4000000 in
theorem n_L_size (l : Launch) (D : va_G) (ca : Nat → ClassId) (ar : Nat → Nat → Nat) (ag : Nat → Nat) (z : ZG) (n : Nat) (P : RowsS) (G : GlbS) (ys : va_W) (ao : Nat) (O : Nat → Int64) (a1 : Int32) (res : Int32) (h0 : f_X7_size n P G a1 = some res) (sz : Nat) : Met l yL_size (Cond.codeWith yL_size cL_size 4 (some .int) [(0, 9, 12, 18)] :: lw_all) rm_L_size (PCz z D ca (wC ar ag ca P G ++ (ys ++ [(ao, oc ca O)])) sz [.ref (ag 0), .int a1, .ref ao]) (QMw D (wC ar ag ca P G ++ (ys ++ [(ao, oc ca O)])) (wC ar ag ca P G ++ (ys ++ [(ao, oc ca (va_up O 0 res.toInt64))])) sz (some (.int 0))) 1 6 (AL (wC ar ag ca P G ++ (ys ++ [(ao, oc ca O)])) sz) := by
  refine met_h (by decide) (Nat.le_of_ble_eq_true rfl) (fun p e s m args below meth c K htab hr0 hZ X hsz ls hl => ?_)
  have K : MC D ca p s m args meth c cL_size 4 RL := K
  have hx := K.1
  have hb := K.2.1
  have hl : lv_has ls 4 [(0, .ref (ag 0)), (1, .int a1), (2, .ref ao)] := hl
  generalize hQ : MQ below _ args s 1 6 _ = Q
  refine lv_aload_n hx hb dL_size_0 rfl (lv_at hl 2 rfl) ?_
  refine lv_iconst (v := 0) hx hb dL_size_1 (by decide) ?_
  refine lv_aload_n hx hb dL_size_2 rfl (lv_at hl 0 rfl) ?_
  refine lv_iload_n hx hb dL_size_3 rfl (lv_at hl 1 rfl) ?_
  have kx := m_X7_size l D ca ar ag z n P G (ys ++ [(ao, oc ca O)]) a1 res h0 s.heap.size
  refine z_callVg K hZ X rfl wC_fstx kx hl.1 1 q820 q821 q822 q87 q823 hv_X7_size ⟨⟨Nat.le_of_ble_eq_true rfl, Nat.le_of_ble_eq_true rfl⟩, rfl, rfl⟩ (z_recvw K X (pl_glb (k := 0) (by decide)) rfl rfl) rfl rfl (Nat.le_of_ble_eq_true rfl) dL_size_4 ⟨Nat.le_of_ble_eq_true rfl, Nat.le_of_ble_eq_true rfl⟩ rfl (fun H locs X => ?_)
  refine lv_i2l hx hb dL_size_7 rfl ?_
  refine w_last K X (241 + ys.length) ctor_atw (vp_in_iff.mpr (by decide)) (ctor_set (q' := (ao, oc ca (va_up O 0 res.toInt64)))) dL_size_8 (fun H locs X => ?_)
  refine lv_goto (tgt := 15) hx hb dL_size_9 (by decide) ?_
  refine lv_iconst (v := 0) hx hb dL_size_15 (by decide) ?_
  subst hQ
  refine w_widen (k := 1) (n := 6) (Nat.le_of_ble_eq_true rfl) (Nat.le_of_ble_eq_true rfl) ?_
  exact w_iret K hr0 X xs_fst hsz dL_size_16
set_option maxRecDepth 100000 in
set_option maxHeartbeats 4000000 in
theorem e1_L_size (l : Launch) (D : va_G) (ca : Nat → ClassId) (ar : Nat → Nat → Nat) (ag : Nat → Nat) (z : ZG) (hl0 : l.stackTraces = false) (P : RowsS) (G : GlbS) (ys : va_W) (ao : Nat) (O : Nat → Int64) (a1 : Int32) (h0 : t_X7_size P G a1 = some 1) (sz : Nat) : Met l yL_size (Cond.codeWith yL_size cL_size 4 (some .int) [(0, 9, 12, 18)] :: lw_all) rm_L_size (PCz z D ca (wC ar ag ca P G ++ (ys ++ [(ao, oc ca O)])) sz [.ref (ag 0), .int a1, .ref ao]) (QMw D (wC ar ag ca P G ++ (ys ++ [(ao, oc ca O)])) (wC ar ag ca P G ++ (ys ++ [(ao, oc ca O)])) sz (some (.int 1))) 1 6 (AL (wC ar ag ca P G ++ (ys ++ [(ao, oc ca O)])) sz) := by
  refine met_h (by decide) (Nat.le_of_ble_eq_true rfl) (fun p e s m args below meth c K htab hr0 hZ X hsz ls hl => ?_)
  have K : MC D ca p s m args meth c cL_size 4 RL := K
  have hx := K.1
  have hb := K.2.1
  have hl : lv_has ls 4 [(0, .ref (ag 0)), (1, .int a1), (2, .ref ao)] := hl
  generalize hQ : MQ below _ args s 1 6 _ = Q
  refine lv_aload_n hx hb dL_size_0 rfl (lv_at hl 2 rfl) ?_
  refine lv_iconst (v := 0) hx hb dL_size_1 (by decide) ?_
  refine lv_aload_n hx hb dL_size_2 rfl (lv_at hl 0 rfl) ?_
  refine lv_iload_n hx hb dL_size_3 rfl (lv_at hl 1 rfl) ?_
  have kx := x_X7_size l D ca ar ag z hl0 P G (ys ++ [(ao, oc ca O)]) a1 1 (by decide) h0 s.heap.size
  refine z_xcatchV (E := eN) K hZ X rfl kx hl.1 1 q820 q821 q822 q87 q823 hv_X7_size ⟨⟨Nat.le_of_ble_eq_true rfl, Nat.le_of_ble_eq_true rfl⟩, rfl, rfl⟩ (z_recvw K X (pl_glb (k := 0) (by decide)) rfl rfl) rfl rfl (Nat.le_of_ble_eq_true rfl) dL_size_4 ⟨Nat.le_of_ble_eq_true rfl, Nat.le_of_ble_eq_true rfl⟩ [] ⟨0, 9, 12, 18⟩ [] (htab.trans rfl) (fun _ h => nomatch h) (by decide) (by decide) q819 (List.mem_of_getElem? (i := 0) rfl) (fun q H locs X => ?_)
  refine lv_astore_n (lv' := [(3, .ref q), (0, .ref (ag 0)), (1, .int a1), (2, .ref ao)]) hx hb dL_size_12 rfl hl (by decide) rfl (fun ls hl => ?_)
  refine lv_iconst (v := 1) hx hb dL_size_13 (by decide) ?_
  subst hQ
  exact w_iret K hr0 X rfl hsz dL_size_14
-- L_pressure
abbrev rm_L_pressure : Room := { frames := 8, cells := 1, slots := 6, locals := 125 }
set_option maxRecDepth 100000 in
set_option maxHeartbeats 4000000 in
theorem n_L_pressure (l : Launch) (D : va_G) (ca : Nat → ClassId) (ar : Nat → Nat → Nat) (ag : Nat → Nat) (z : ZG) (P : RowsS) (G : GlbS) (ys : va_W) (ao : Nat) (O : Nat → Int64) (a1 : Int32) (res : Int32) (h0 : f_X7_pressure P G a1 = some res) (sz : Nat) : Met l yL_pressure (Cond.codeWith yL_pressure cL_pressure 4 (some .int) [(0, 9, 12, 18)] :: lw_all) rm_L_pressure (PCz z D ca (wC ar ag ca P G ++ (ys ++ [(ao, oc ca O)])) sz [.ref (ag 0), .int a1, .ref ao]) (QMw D (wC ar ag ca P G ++ (ys ++ [(ao, oc ca O)])) (wC ar ag ca P G ++ (ys ++ [(ao, oc ca (va_up O 0 res.toInt64))])) sz (some (.int 0))) 1 6 (AL (wC ar ag ca P G ++ (ys ++ [(ao, oc ca O)])) sz) := by
  refine met_h (by decide) (Nat.le_of_ble_eq_true rfl) (fun p e s m args below meth c K htab hr0 hZ X hsz ls hl => ?_)
  have K : MC D ca p s m args meth c cL_pressure 4 RL := K
  have hx := K.1
  have hb := K.2.1
  have hl : lv_has ls 4 [(0, .ref (ag 0)), (1, .int a1), (2, .ref ao)] := hl
  generalize hQ : MQ below _ args s 1 6 _ = Q
  refine lv_aload_n hx hb dL_pressure_0 rfl (lv_at hl 2 rfl) ?_
  refine lv_iconst (v := 0) hx hb dL_pressure_1 (by decide) ?_
  refine lv_aload_n hx hb dL_pressure_2 rfl (lv_at hl 0 rfl) ?_
  refine lv_iload_n hx hb dL_pressure_3 rfl (lv_at hl 1 rfl) ?_
  have kx := m_X7_pressure l D ca ar ag z P G (ys ++ [(ao, oc ca O)]) a1 res h0 s.heap.size
  refine z_callVg K hZ X rfl wC_fstx kx hl.1 1 q847 q848 q849 q87 q850 hv_X7_pressure ⟨⟨Nat.le_of_ble_eq_true rfl, Nat.le_of_ble_eq_true rfl⟩, rfl, rfl⟩ (z_recvw K X (pl_glb (k := 0) (by decide)) rfl rfl) rfl rfl (Nat.le_of_ble_eq_true rfl) dL_pressure_4 ⟨Nat.le_of_ble_eq_true rfl, Nat.le_of_ble_eq_true rfl⟩ rfl (fun H locs X => ?_)
  refine lv_i2l hx hb dL_pressure_7 rfl ?_
  refine w_last K X (241 + ys.length) ctor_atw (vp_in_iff.mpr (by decide)) (ctor_set (q' := (ao, oc ca (va_up O 0 res.toInt64)))) dL_pressure_8 (fun H locs X => ?_)
  refine lv_goto (tgt := 15) hx hb dL_pressure_9 (by decide) ?_
  refine lv_iconst (v := 0) hx hb dL_pressure_15 (by decide) ?_
  subst hQ
  refine w_widen (k := 1) (n := 6) (Nat.le_of_ble_eq_true rfl) (Nat.le_of_ble_eq_true rfl) ?_
  exact w_iret K hr0 X xs_fst hsz dL_pressure_16
set_option maxRecDepth 100000 in
set_option maxHeartbeats 4000000 in
theorem e1_L_pressure (l : Launch) (D : va_G) (ca : Nat → ClassId) (ar : Nat → Nat → Nat) (ag : Nat → Nat) (z : ZG) (hl0 : l.stackTraces = false) (P : RowsS) (G : GlbS) (ys : va_W) (ao : Nat) (O : Nat → Int64) (a1 : Int32) (h0 : t_X7_pressure P G a1 = some 1) (sz : Nat) : Met l yL_pressure (Cond.codeWith yL_pressure cL_pressure 4 (some .int) [(0, 9, 12, 18)] :: lw_all) rm_L_pressure (PCz z D ca (wC ar ag ca P G ++ (ys ++ [(ao, oc ca O)])) sz [.ref (ag 0), .int a1, .ref ao]) (QMw D (wC ar ag ca P G ++ (ys ++ [(ao, oc ca O)])) (wC ar ag ca P G ++ (ys ++ [(ao, oc ca O)])) sz (some (.int 1))) 1 6 (AL (wC ar ag ca P G ++ (ys ++ [(ao, oc ca O)])) sz) := by
  refine met_h (by decide) (Nat.le_of_ble_eq_true rfl) (fun p e s m args below meth c K htab hr0 hZ X hsz ls hl => ?_)
  have K : MC D ca p s m args meth c cL_pressure 4 RL := K
  have hx := K.1
  have hb := K.2.1
  have hl : lv_has ls 4 [(0, .ref (ag 0)), (1, .int a1), (2, .ref ao)] := hl
  generalize hQ : MQ below _ args s 1 6 _ = Q
  refine lv_aload_n hx hb dL_pressure_0 rfl (lv_at hl 2 rfl) ?_
  refine lv_iconst (v := 0) hx hb dL_pressure_1 (by decide) ?_
  refine lv_aload_n hx hb dL_pressure_2 rfl (lv_at hl 0 rfl) ?_
  refine lv_iload_n hx hb dL_pressure_3 rfl (lv_at hl 1 rfl) ?_
  have kx := x_X7_pressure l D ca ar ag z hl0 P G (ys ++ [(ao, oc ca O)]) a1 1 (by decide) h0 s.heap.size
  refine z_xcatchV (E := eN) K hZ X rfl kx hl.1 1 q847 q848 q849 q87 q850 hv_X7_pressure ⟨⟨Nat.le_of_ble_eq_true rfl, Nat.le_of_ble_eq_true rfl⟩, rfl, rfl⟩ (z_recvw K X (pl_glb (k := 0) (by decide)) rfl rfl) rfl rfl (Nat.le_of_ble_eq_true rfl) dL_pressure_4 ⟨Nat.le_of_ble_eq_true rfl, Nat.le_of_ble_eq_true rfl⟩ [] ⟨0, 9, 12, 18⟩ [] (htab.trans rfl) (fun _ h => nomatch h) (by decide) (by decide) q819 (List.mem_of_getElem? (i := 0) rfl) (fun q H locs X => ?_)
  refine lv_astore_n (lv' := [(3, .ref q), (0, .ref (ag 0)), (1, .int a1), (2, .ref ao)]) hx hb dL_pressure_12 rfl hl (by decide) rfl (fun ls hl => ?_)
  refine lv_iconst (v := 1) hx hb dL_pressure_13 (by decide) ?_
  subst hQ
  exact w_iret K hr0 X rfl hsz dL_pressure_14
-- L_leg
abbrev rm_L_leg : Room := { frames := 8, cells := 1, slots := 6, locals := 126 }
set_option maxRecDepth 100000 in
set_option maxHeartbeats 4000000 in
theorem n_L_leg (l : Launch) (D : va_G) (ca : Nat → ClassId) (ar : Nat → Nat → Nat) (ag : Nat → Nat) (z : ZG) (P : RowsS) (G : GlbS) (ys : va_W) (ao : Nat) (O : Nat → Int64) (a1 : Int32) (a2 : Int32) (res : Int32) (h0 : f_X7_leg P G a1 a2 = some res) (sz : Nat) : Met l yL_leg (Cond.codeWith yL_leg cL_leg 5 (some .int) [(0, 10, 13, 18)] :: lw_all) rm_L_leg (PCz z D ca (wC ar ag ca P G ++ (ys ++ [(ao, oc ca O)])) sz [.ref (ag 0), .int a1, .int a2, .ref ao]) (QMw D (wC ar ag ca P G ++ (ys ++ [(ao, oc ca O)])) (wC ar ag ca P G ++ (ys ++ [(ao, oc ca (va_up O 0 res.toInt64))])) sz (some (.int 0))) 1 6 (AL (wC ar ag ca P G ++ (ys ++ [(ao, oc ca O)])) sz) := by
  refine met_h (by decide) (Nat.le_of_ble_eq_true rfl) (fun p e s m args below meth c K htab hr0 hZ X hsz ls hl => ?_)
  have K : MC D ca p s m args meth c cL_leg 5 RL := K
  have hx := K.1
  have hb := K.2.1
  have hl : lv_has ls 5 [(0, .ref (ag 0)), (1, .int a1), (2, .int a2), (3, .ref ao)] := hl
  generalize hQ : MQ below _ args s 1 6 _ = Q
  refine lv_aload_n hx hb dL_leg_0 rfl (lv_at hl 3 rfl) ?_
  refine lv_iconst (v := 0) hx hb dL_leg_1 (by decide) ?_
  refine lv_aload_n hx hb dL_leg_2 rfl (lv_at hl 0 rfl) ?_
  refine lv_iload_n hx hb dL_leg_3 rfl (lv_at hl 1 rfl) ?_
  refine lv_iload_n hx hb dL_leg_4 rfl (lv_at hl 2 rfl) ?_
  have kx := m_X7_leg l D ca ar ag z P G (ys ++ [(ao, oc ca O)]) a1 a2 res h0 s.heap.size
  refine z_callVg K hZ X rfl wC_fstx kx hl.1 2 q860 q861 q862 q87 q863 hv_X7_leg ⟨⟨Nat.le_of_ble_eq_true rfl, Nat.le_of_ble_eq_true rfl⟩, rfl, rfl⟩ (z_recvw K X (pl_glb (k := 0) (by decide)) rfl rfl) rfl rfl (Nat.le_of_ble_eq_true rfl) dL_leg_5 ⟨Nat.le_of_ble_eq_true rfl, Nat.le_of_ble_eq_true rfl⟩ rfl (fun H locs X => ?_)
  refine lv_i2l hx hb dL_leg_8 rfl ?_
  refine w_last K X (241 + ys.length) ctor_atw (vp_in_iff.mpr (by decide)) (ctor_set (q' := (ao, oc ca (va_up O 0 res.toInt64)))) dL_leg_9 (fun H locs X => ?_)
  refine lv_goto (tgt := 17) hx hb dL_leg_10 (by decide) ?_
  refine lv_iconst (v := 0) hx hb dL_leg_17 (by decide) ?_
  subst hQ
  refine w_widen (k := 1) (n := 6) (Nat.le_of_ble_eq_true rfl) (Nat.le_of_ble_eq_true rfl) ?_
  exact w_iret K hr0 X xs_fst hsz dL_leg_18
set_option maxRecDepth 100000 in
set_option maxHeartbeats 4000000 in
theorem e1_L_leg (l : Launch) (D : va_G) (ca : Nat → ClassId) (ar : Nat → Nat → Nat) (ag : Nat → Nat) (z : ZG) (hl0 : l.stackTraces = false) (P : RowsS) (G : GlbS) (ys : va_W) (ao : Nat) (O : Nat → Int64) (a1 : Int32) (a2 : Int32) (h0 : t_X7_leg P G a1 a2 = some 1) (sz : Nat) : Met l yL_leg (Cond.codeWith yL_leg cL_leg 5 (some .int) [(0, 10, 13, 18)] :: lw_all) rm_L_leg (PCz z D ca (wC ar ag ca P G ++ (ys ++ [(ao, oc ca O)])) sz [.ref (ag 0), .int a1, .int a2, .ref ao]) (QMw D (wC ar ag ca P G ++ (ys ++ [(ao, oc ca O)])) (wC ar ag ca P G ++ (ys ++ [(ao, oc ca O)])) sz (some (.int 1))) 1 6 (AL (wC ar ag ca P G ++ (ys ++ [(ao, oc ca O)])) sz) := by
  refine met_h (by decide) (Nat.le_of_ble_eq_true rfl) (fun p e s m args below meth c K htab hr0 hZ X hsz ls hl => ?_)
  have K : MC D ca p s m args meth c cL_leg 5 RL := K
  have hx := K.1
  have hb := K.2.1
  have hl : lv_has ls 5 [(0, .ref (ag 0)), (1, .int a1), (2, .int a2), (3, .ref ao)] := hl
  generalize hQ : MQ below _ args s 1 6 _ = Q
  refine lv_aload_n hx hb dL_leg_0 rfl (lv_at hl 3 rfl) ?_
  refine lv_iconst (v := 0) hx hb dL_leg_1 (by decide) ?_
  refine lv_aload_n hx hb dL_leg_2 rfl (lv_at hl 0 rfl) ?_
  refine lv_iload_n hx hb dL_leg_3 rfl (lv_at hl 1 rfl) ?_
  refine lv_iload_n hx hb dL_leg_4 rfl (lv_at hl 2 rfl) ?_
  have kx := x_X7_leg l D ca ar ag z hl0 P G (ys ++ [(ao, oc ca O)]) a1 a2 1 (by decide) h0 s.heap.size
  refine z_xcatchV (E := eN) K hZ X rfl kx hl.1 2 q860 q861 q862 q87 q863 hv_X7_leg ⟨⟨Nat.le_of_ble_eq_true rfl, Nat.le_of_ble_eq_true rfl⟩, rfl, rfl⟩ (z_recvw K X (pl_glb (k := 0) (by decide)) rfl rfl) rfl rfl (Nat.le_of_ble_eq_true rfl) dL_leg_5 ⟨Nat.le_of_ble_eq_true rfl, Nat.le_of_ble_eq_true rfl⟩ [] ⟨0, 10, 13, 18⟩ [] (htab.trans rfl) (fun _ h => nomatch h) (by decide) (by decide) q819 (List.mem_of_getElem? (i := 0) rfl) (fun q H locs X => ?_)
  refine lv_astore (lv' := [(4, .ref q), (0, .ref (ag 0)), (1, .int a1), (2, .int a2), (3, .ref ao)]) hx hb dL_leg_13 hl (by decide) rfl (fun ls hl => ?_)
  refine lv_iconst (v := 1) hx hb dL_leg_15 (by decide) ?_
  subst hQ
  exact w_iret K hr0 X rfl hsz dL_leg_16
-- L_account
abbrev rm_L_account : Room := { frames := 8, cells := 1, slots := 6, locals := 128 }
set_option maxRecDepth 100000 in
set_option maxHeartbeats 4000000 in
theorem n_L_account (l : Launch) (D : va_G) (ca : Nat → ClassId) (ar : Nat → Nat → Nat) (ag : Nat → Nat) (z : ZG) (n : Nat) (P : RowsS) (G : GlbS) (ys : va_W) (ao : Nat) (O : Nat → Int64) (a1 : Int32) (a2 : Int32) (res : Int64) (h0 : f_X7_account n P G a1 a2 = some res) (sz : Nat) : Met l yL_account (Cond.codeWith yL_account cL_account 5 (some .int) [(0, 9, 12, 18)] :: lw_all) rm_L_account (PCz z D ca (wC ar ag ca P G ++ (ys ++ [(ao, oc ca O)])) sz [.ref (ag 0), .int a1, .int a2, .ref ao]) (QMw D (wC ar ag ca P G ++ (ys ++ [(ao, oc ca O)])) (wC ar ag ca P G ++ (ys ++ [(ao, oc ca (va_up O 0 res))])) sz (some (.int 0))) 1 6 (AL (wC ar ag ca P G ++ (ys ++ [(ao, oc ca O)])) sz) := by
  refine met_h (by decide) (Nat.le_of_ble_eq_true rfl) (fun p e s m args below meth c K htab hr0 hZ X hsz ls hl => ?_)
  have K : MC D ca p s m args meth c cL_account 5 RL := K
  have hx := K.1
  have hb := K.2.1
  have hl : lv_has ls 5 [(0, .ref (ag 0)), (1, .int a1), (2, .int a2), (3, .ref ao)] := hl
  generalize hQ : MQ below _ args s 1 6 _ = Q
  refine lv_aload_n hx hb dL_account_0 rfl (lv_at hl 3 rfl) ?_
  refine lv_iconst (v := 0) hx hb dL_account_1 (by decide) ?_
  refine lv_aload_n hx hb dL_account_2 rfl (lv_at hl 0 rfl) ?_
  refine lv_iload_n hx hb dL_account_3 rfl (lv_at hl 1 rfl) ?_
  refine lv_iload_n hx hb dL_account_4 rfl (lv_at hl 2 rfl) ?_
  have kx := m_X7_account l D ca ar ag z n P G (ys ++ [(ao, oc ca O)]) a1 a2 res h0 s.heap.size
  refine z_callVg K hZ X rfl wC_fstx kx hl.1 2 q873 q874 q875 q87 q876 hv_X7_account ⟨⟨Nat.le_of_ble_eq_true rfl, Nat.le_of_ble_eq_true rfl⟩, rfl, rfl⟩ (z_recvw K X (pl_glb (k := 0) (by decide)) rfl rfl) rfl rfl (Nat.le_of_ble_eq_true rfl) dL_account_5 ⟨Nat.le_of_ble_eq_true rfl, Nat.le_of_ble_eq_true rfl⟩ rfl (fun H locs X => ?_)
  refine w_last K X (241 + ys.length) ctor_atw (vp_in_iff.mpr (by decide)) (ctor_set (q' := (ao, oc ca (va_up O 0 res)))) dL_account_8 (fun H locs X => ?_)
  refine lv_goto (tgt := 16) hx hb dL_account_9 (by decide) ?_
  refine lv_iconst (v := 0) hx hb dL_account_16 (by decide) ?_
  subst hQ
  refine w_widen (k := 1) (n := 6) (Nat.le_of_ble_eq_true rfl) (Nat.le_of_ble_eq_true rfl) ?_
  exact w_iret K hr0 X xs_fst hsz dL_account_17
set_option maxRecDepth 100000 in
set_option maxHeartbeats 4000000 in
theorem e1_L_account (l : Launch) (D : va_G) (ca : Nat → ClassId) (ar : Nat → Nat → Nat) (ag : Nat → Nat) (z : ZG) (hl0 : l.stackTraces = false) (n : Nat) (P : RowsS) (G : GlbS) (ys : va_W) (ao : Nat) (O : Nat → Int64) (a1 : Int32) (a2 : Int32) (h0 : t_X7_account n P G a1 a2 = some 1) (sz : Nat) : Met l yL_account (Cond.codeWith yL_account cL_account 5 (some .int) [(0, 9, 12, 18)] :: lw_all) rm_L_account (PCz z D ca (wC ar ag ca P G ++ (ys ++ [(ao, oc ca O)])) sz [.ref (ag 0), .int a1, .int a2, .ref ao]) (QMw D (wC ar ag ca P G ++ (ys ++ [(ao, oc ca O)])) (wC ar ag ca P G ++ (ys ++ [(ao, oc ca O)])) sz (some (.int 1))) 1 6 (AL (wC ar ag ca P G ++ (ys ++ [(ao, oc ca O)])) sz) := by
  refine met_h (by decide) (Nat.le_of_ble_eq_true rfl) (fun p e s m args below meth c K htab hr0 hZ X hsz ls hl => ?_)
  have K : MC D ca p s m args meth c cL_account 5 RL := K
  have hx := K.1
  have hb := K.2.1
  have hl : lv_has ls 5 [(0, .ref (ag 0)), (1, .int a1), (2, .int a2), (3, .ref ao)] := hl
  generalize hQ : MQ below _ args s 1 6 _ = Q
  refine lv_aload_n hx hb dL_account_0 rfl (lv_at hl 3 rfl) ?_
  refine lv_iconst (v := 0) hx hb dL_account_1 (by decide) ?_
  refine lv_aload_n hx hb dL_account_2 rfl (lv_at hl 0 rfl) ?_
  refine lv_iload_n hx hb dL_account_3 rfl (lv_at hl 1 rfl) ?_
  refine lv_iload_n hx hb dL_account_4 rfl (lv_at hl 2 rfl) ?_
  have kx := x_X7_account l D ca ar ag z hl0 n P G (ys ++ [(ao, oc ca O)]) a1 a2 1 (by decide) h0 s.heap.size
  refine z_xcatchV (E := eN) K hZ X rfl kx hl.1 2 q873 q874 q875 q87 q876 hv_X7_account ⟨⟨Nat.le_of_ble_eq_true rfl, Nat.le_of_ble_eq_true rfl⟩, rfl, rfl⟩ (z_recvw K X (pl_glb (k := 0) (by decide)) rfl rfl) rfl rfl (Nat.le_of_ble_eq_true rfl) dL_account_5 ⟨Nat.le_of_ble_eq_true rfl, Nat.le_of_ble_eq_true rfl⟩ [] ⟨0, 9, 12, 18⟩ [] (htab.trans rfl) (fun _ h => nomatch h) (by decide) (by decide) q819 (List.mem_of_getElem? (i := 0) rfl) (fun q H locs X => ?_)
  refine lv_astore (lv' := [(4, .ref q), (0, .ref (ag 0)), (1, .int a1), (2, .int a2), (3, .ref ao)]) hx hb dL_account_12 hl (by decide) rfl (fun ls hl => ?_)
  refine lv_iconst (v := 1) hx hb dL_account_14 (by decide) ?_
  subst hQ
  exact w_iret K hr0 X rfl hsz dL_account_15
-- L_tube
abbrev rm_L_tube : Room := { frames := 8, cells := 1, slots := 6, locals := 126 }
set_option maxRecDepth 100000 in
set_option maxHeartbeats 4000000 in
theorem n_L_tube (l : Launch) (D : va_G) (ca : Nat → ClassId) (ar : Nat → Nat → Nat) (ag : Nat → Nat) (z : ZG) (P : RowsS) (G : GlbS) (ys : va_W) (ao : Nat) (O : Nat → Int64) (a1 : Int32) (a2 : Int32) (res : Int32) (h0 : f_X7_tube P G a1 a2 = some res) (sz : Nat) : Met l yL_tube (Cond.codeWith yL_tube cL_tube 5 (some .int) [(0, 10, 13, 18)] :: lw_all) rm_L_tube (PCz z D ca (wC ar ag ca P G ++ (ys ++ [(ao, oc ca O)])) sz [.ref (ag 0), .int a1, .int a2, .ref ao]) (QMw D (wC ar ag ca P G ++ (ys ++ [(ao, oc ca O)])) (wC ar ag ca P G ++ (ys ++ [(ao, oc ca (va_up O 0 res.toInt64))])) sz (some (.int 0))) 1 6 (AL (wC ar ag ca P G ++ (ys ++ [(ao, oc ca O)])) sz) := by
  refine met_h (by decide) (Nat.le_of_ble_eq_true rfl) (fun p e s m args below meth c K htab hr0 hZ X hsz ls hl => ?_)
  have K : MC D ca p s m args meth c cL_tube 5 RL := K
  have hx := K.1
  have hb := K.2.1
  have hl : lv_has ls 5 [(0, .ref (ag 0)), (1, .int a1), (2, .int a2), (3, .ref ao)] := hl
  generalize hQ : MQ below _ args s 1 6 _ = Q
  refine lv_aload_n hx hb dL_tube_0 rfl (lv_at hl 3 rfl) ?_
  refine lv_iconst (v := 0) hx hb dL_tube_1 (by decide) ?_
  refine lv_aload_n hx hb dL_tube_2 rfl (lv_at hl 0 rfl) ?_
  refine lv_iload_n hx hb dL_tube_3 rfl (lv_at hl 1 rfl) ?_
  refine lv_iload_n hx hb dL_tube_4 rfl (lv_at hl 2 rfl) ?_
  have kx := m_X7_tube l D ca ar ag z P G (ys ++ [(ao, oc ca O)]) a1 a2 res h0 s.heap.size
  refine z_callVg K hZ X rfl wC_fstx kx hl.1 2 q882 q883 q884 q87 q885 hv_X7_tube ⟨⟨Nat.le_of_ble_eq_true rfl, Nat.le_of_ble_eq_true rfl⟩, rfl, rfl⟩ (z_recvw K X (pl_glb (k := 0) (by decide)) rfl rfl) rfl rfl (Nat.le_of_ble_eq_true rfl) dL_tube_5 ⟨Nat.le_of_ble_eq_true rfl, Nat.le_of_ble_eq_true rfl⟩ rfl (fun H locs X => ?_)
  refine lv_i2l hx hb dL_tube_8 rfl ?_
  refine w_last K X (241 + ys.length) ctor_atw (vp_in_iff.mpr (by decide)) (ctor_set (q' := (ao, oc ca (va_up O 0 res.toInt64)))) dL_tube_9 (fun H locs X => ?_)
  refine lv_goto (tgt := 17) hx hb dL_tube_10 (by decide) ?_
  refine lv_iconst (v := 0) hx hb dL_tube_17 (by decide) ?_
  subst hQ
  refine w_widen (k := 1) (n := 6) (Nat.le_of_ble_eq_true rfl) (Nat.le_of_ble_eq_true rfl) ?_
  exact w_iret K hr0 X xs_fst hsz dL_tube_18
set_option maxRecDepth 100000 in
set_option maxHeartbeats 4000000 in
theorem e1_L_tube (l : Launch) (D : va_G) (ca : Nat → ClassId) (ar : Nat → Nat → Nat) (ag : Nat → Nat) (z : ZG) (hl0 : l.stackTraces = false) (P : RowsS) (G : GlbS) (ys : va_W) (ao : Nat) (O : Nat → Int64) (a1 : Int32) (a2 : Int32) (h0 : t_X7_tube P G a1 a2 = some 1) (sz : Nat) : Met l yL_tube (Cond.codeWith yL_tube cL_tube 5 (some .int) [(0, 10, 13, 18)] :: lw_all) rm_L_tube (PCz z D ca (wC ar ag ca P G ++ (ys ++ [(ao, oc ca O)])) sz [.ref (ag 0), .int a1, .int a2, .ref ao]) (QMw D (wC ar ag ca P G ++ (ys ++ [(ao, oc ca O)])) (wC ar ag ca P G ++ (ys ++ [(ao, oc ca O)])) sz (some (.int 1))) 1 6 (AL (wC ar ag ca P G ++ (ys ++ [(ao, oc ca O)])) sz) := by
  refine met_h (by decide) (Nat.le_of_ble_eq_true rfl) (fun p e s m args below meth c K htab hr0 hZ X hsz ls hl => ?_)
  have K : MC D ca p s m args meth c cL_tube 5 RL := K
  have hx := K.1
  have hb := K.2.1
  have hl : lv_has ls 5 [(0, .ref (ag 0)), (1, .int a1), (2, .int a2), (3, .ref ao)] := hl
  generalize hQ : MQ below _ args s 1 6 _ = Q
  refine lv_aload_n hx hb dL_tube_0 rfl (lv_at hl 3 rfl) ?_
  refine lv_iconst (v := 0) hx hb dL_tube_1 (by decide) ?_
  refine lv_aload_n hx hb dL_tube_2 rfl (lv_at hl 0 rfl) ?_
  refine lv_iload_n hx hb dL_tube_3 rfl (lv_at hl 1 rfl) ?_
  refine lv_iload_n hx hb dL_tube_4 rfl (lv_at hl 2 rfl) ?_
  have kx := x_X7_tube l D ca ar ag z hl0 P G (ys ++ [(ao, oc ca O)]) a1 a2 1 (by decide) h0 s.heap.size
  refine z_xcatchV (E := eN) K hZ X rfl kx hl.1 2 q882 q883 q884 q87 q885 hv_X7_tube ⟨⟨Nat.le_of_ble_eq_true rfl, Nat.le_of_ble_eq_true rfl⟩, rfl, rfl⟩ (z_recvw K X (pl_glb (k := 0) (by decide)) rfl rfl) rfl rfl (Nat.le_of_ble_eq_true rfl) dL_tube_5 ⟨Nat.le_of_ble_eq_true rfl, Nat.le_of_ble_eq_true rfl⟩ [] ⟨0, 10, 13, 18⟩ [] (htab.trans rfl) (fun _ h => nomatch h) (by decide) (by decide) q819 (List.mem_of_getElem? (i := 0) rfl) (fun q H locs X => ?_)
  refine lv_astore (lv' := [(4, .ref q), (0, .ref (ag 0)), (1, .int a1), (2, .int a2), (3, .ref ao)]) hx hb dL_tube_13 hl (by decide) rfl (fun ls hl => ?_)
  refine lv_iconst (v := 1) hx hb dL_tube_15 (by decide) ?_
  subst hQ
  exact w_iret K hr0 X rfl hsz dL_tube_16
-- L_told
abbrev rm_L_told : Room := { frames := 8, cells := 1, slots := 6, locals := 126 }
set_option maxRecDepth 100000 in
set_option maxHeartbeats 4000000 in
theorem n_L_told (l : Launch) (D : va_G) (ca : Nat → ClassId) (ar : Nat → Nat → Nat) (ag : Nat → Nat) (z : ZG) (P : RowsS) (G : GlbS) (ys : va_W) (ao : Nat) (O : Nat → Int64) (a1 : Int32) (res : Int32) (h0 : f_X7_told P G a1 = some res) (sz : Nat) : Met l yL_told (Cond.codeWith yL_told cL_told 4 (some .int) [(0, 9, 12, 18)] :: lw_all) rm_L_told (PCz z D ca (wC ar ag ca P G ++ (ys ++ [(ao, oc ca O)])) sz [.ref (ag 0), .int a1, .ref ao]) (QMw D (wC ar ag ca P G ++ (ys ++ [(ao, oc ca O)])) (wC ar ag ca P G ++ (ys ++ [(ao, oc ca (va_up O 0 res.toInt64))])) sz (some (.int 0))) 1 6 (AL (wC ar ag ca P G ++ (ys ++ [(ao, oc ca O)])) sz) := by
  refine met_h (by decide) (Nat.le_of_ble_eq_true rfl) (fun p e s m args below meth c K htab hr0 hZ X hsz ls hl => ?_)
  have K : MC D ca p s m args meth c cL_told 4 RL := K
  have hx := K.1
  have hb := K.2.1
  have hl : lv_has ls 4 [(0, .ref (ag 0)), (1, .int a1), (2, .ref ao)] := hl
  generalize hQ : MQ below _ args s 1 6 _ = Q
  refine lv_aload_n hx hb dL_told_0 rfl (lv_at hl 2 rfl) ?_
  refine lv_iconst (v := 0) hx hb dL_told_1 (by decide) ?_
  refine lv_aload_n hx hb dL_told_2 rfl (lv_at hl 0 rfl) ?_
  refine lv_iload_n hx hb dL_told_3 rfl (lv_at hl 1 rfl) ?_
  have kx := m_X7_told l D ca ar ag z P G (ys ++ [(ao, oc ca O)]) a1 res h0 s.heap.size
  refine z_callVg K hZ X rfl wC_fstx kx hl.1 1 q900 q901 q902 q87 q903 hv_X7_told ⟨⟨Nat.le_of_ble_eq_true rfl, Nat.le_of_ble_eq_true rfl⟩, rfl, rfl⟩ (z_recvw K X (pl_glb (k := 0) (by decide)) rfl rfl) rfl rfl (Nat.le_of_ble_eq_true rfl) dL_told_4 ⟨Nat.le_of_ble_eq_true rfl, Nat.le_of_ble_eq_true rfl⟩ rfl (fun H locs X => ?_)
  refine lv_i2l hx hb dL_told_7 rfl ?_
  refine w_last K X (241 + ys.length) ctor_atw (vp_in_iff.mpr (by decide)) (ctor_set (q' := (ao, oc ca (va_up O 0 res.toInt64)))) dL_told_8 (fun H locs X => ?_)
  refine lv_goto (tgt := 15) hx hb dL_told_9 (by decide) ?_
  refine lv_iconst (v := 0) hx hb dL_told_15 (by decide) ?_
  subst hQ
  refine w_widen (k := 1) (n := 6) (Nat.le_of_ble_eq_true rfl) (Nat.le_of_ble_eq_true rfl) ?_
  exact w_iret K hr0 X xs_fst hsz dL_told_16
set_option maxRecDepth 100000 in
set_option maxHeartbeats 4000000 in
theorem e1_L_told (l : Launch) (D : va_G) (ca : Nat → ClassId) (ar : Nat → Nat → Nat) (ag : Nat → Nat) (z : ZG) (hl0 : l.stackTraces = false) (P : RowsS) (G : GlbS) (ys : va_W) (ao : Nat) (O : Nat → Int64) (a1 : Int32) (h0 : t_X7_told P G a1 = some 1) (sz : Nat) : Met l yL_told (Cond.codeWith yL_told cL_told 4 (some .int) [(0, 9, 12, 18)] :: lw_all) rm_L_told (PCz z D ca (wC ar ag ca P G ++ (ys ++ [(ao, oc ca O)])) sz [.ref (ag 0), .int a1, .ref ao]) (QMw D (wC ar ag ca P G ++ (ys ++ [(ao, oc ca O)])) (wC ar ag ca P G ++ (ys ++ [(ao, oc ca O)])) sz (some (.int 1))) 1 6 (AL (wC ar ag ca P G ++ (ys ++ [(ao, oc ca O)])) sz) := by
  refine met_h (by decide) (Nat.le_of_ble_eq_true rfl) (fun p e s m args below meth c K htab hr0 hZ X hsz ls hl => ?_)
  have K : MC D ca p s m args meth c cL_told 4 RL := K
  have hx := K.1
  have hb := K.2.1
  have hl : lv_has ls 4 [(0, .ref (ag 0)), (1, .int a1), (2, .ref ao)] := hl
  generalize hQ : MQ below _ args s 1 6 _ = Q
  refine lv_aload_n hx hb dL_told_0 rfl (lv_at hl 2 rfl) ?_
  refine lv_iconst (v := 0) hx hb dL_told_1 (by decide) ?_
  refine lv_aload_n hx hb dL_told_2 rfl (lv_at hl 0 rfl) ?_
  refine lv_iload_n hx hb dL_told_3 rfl (lv_at hl 1 rfl) ?_
  have kx := x_X7_told l D ca ar ag z hl0 P G (ys ++ [(ao, oc ca O)]) a1 1 (by decide) h0 s.heap.size
  refine z_xcatchV (E := eN) K hZ X rfl kx hl.1 1 q900 q901 q902 q87 q903 hv_X7_told ⟨⟨Nat.le_of_ble_eq_true rfl, Nat.le_of_ble_eq_true rfl⟩, rfl, rfl⟩ (z_recvw K X (pl_glb (k := 0) (by decide)) rfl rfl) rfl rfl (Nat.le_of_ble_eq_true rfl) dL_told_4 ⟨Nat.le_of_ble_eq_true rfl, Nat.le_of_ble_eq_true rfl⟩ [] ⟨0, 9, 12, 18⟩ [] (htab.trans rfl) (fun _ h => nomatch h) (by decide) (by decide) q819 (List.mem_of_getElem? (i := 0) rfl) (fun q H locs X => ?_)
  refine lv_astore_n (lv' := [(3, .ref q), (0, .ref (ag 0)), (1, .int a1), (2, .ref ao)]) hx hb dL_told_12 rfl hl (by decide) rfl (fun ls hl => ?_)
  refine lv_iconst (v := 1) hx hb dL_told_13 (by decide) ?_
  subst hQ
  exact w_iret K hr0 X rfl hsz dL_told_14
-- L_off
abbrev rm_L_off : Room := { frames := 8, cells := 1, slots := 6, locals := 126 }
set_option maxRecDepth 100000 in
set_option maxHeartbeats 4000000 in
theorem n_L_off (l : Launch) (D : va_G) (ca : Nat → ClassId) (ar : Nat → Nat → Nat) (ag : Nat → Nat) (z : ZG) (P : RowsS) (G : GlbS) (ys : va_W) (ao : Nat) (O : Nat → Int64) (a1 : Int32) (res : Int32) (h0 : f_X7_off P G a1 = some res) (sz : Nat) : Met l yL_off (Cond.codeWith yL_off cL_off 4 (some .int) [(0, 9, 12, 18)] :: lw_all) rm_L_off (PCz z D ca (wC ar ag ca P G ++ (ys ++ [(ao, oc ca O)])) sz [.ref (ag 0), .int a1, .ref ao]) (QMw D (wC ar ag ca P G ++ (ys ++ [(ao, oc ca O)])) (wC ar ag ca P G ++ (ys ++ [(ao, oc ca (va_up O 0 res.toInt64))])) sz (some (.int 0))) 1 6 (AL (wC ar ag ca P G ++ (ys ++ [(ao, oc ca O)])) sz) := by
  refine met_h (by decide) (Nat.le_of_ble_eq_true rfl) (fun p e s m args below meth c K htab hr0 hZ X hsz ls hl => ?_)
  have K : MC D ca p s m args meth c cL_off 4 RL := K
  have hx := K.1
  have hb := K.2.1
  have hl : lv_has ls 4 [(0, .ref (ag 0)), (1, .int a1), (2, .ref ao)] := hl
  generalize hQ : MQ below _ args s 1 6 _ = Q
  refine lv_aload_n hx hb dL_off_0 rfl (lv_at hl 2 rfl) ?_
  refine lv_iconst (v := 0) hx hb dL_off_1 (by decide) ?_
  refine lv_aload_n hx hb dL_off_2 rfl (lv_at hl 0 rfl) ?_
  refine lv_iload_n hx hb dL_off_3 rfl (lv_at hl 1 rfl) ?_
  have kx := m_X7_off l D ca ar ag z P G (ys ++ [(ao, oc ca O)]) a1 res h0 s.heap.size
  refine z_callVg K hZ X rfl wC_fstx kx hl.1 1 q909 q910 q911 q87 q912 hv_X7_off ⟨⟨Nat.le_of_ble_eq_true rfl, Nat.le_of_ble_eq_true rfl⟩, rfl, rfl⟩ (z_recvw K X (pl_glb (k := 0) (by decide)) rfl rfl) rfl rfl (Nat.le_of_ble_eq_true rfl) dL_off_4 ⟨Nat.le_of_ble_eq_true rfl, Nat.le_of_ble_eq_true rfl⟩ rfl (fun H locs X => ?_)
  refine lv_i2l hx hb dL_off_7 rfl ?_
  refine w_last K X (241 + ys.length) ctor_atw (vp_in_iff.mpr (by decide)) (ctor_set (q' := (ao, oc ca (va_up O 0 res.toInt64)))) dL_off_8 (fun H locs X => ?_)
  refine lv_goto (tgt := 15) hx hb dL_off_9 (by decide) ?_
  refine lv_iconst (v := 0) hx hb dL_off_15 (by decide) ?_
  subst hQ
  refine w_widen (k := 1) (n := 6) (Nat.le_of_ble_eq_true rfl) (Nat.le_of_ble_eq_true rfl) ?_
  exact w_iret K hr0 X xs_fst hsz dL_off_16
set_option maxRecDepth 100000 in
set_option maxHeartbeats 4000000 in
theorem e1_L_off (l : Launch) (D : va_G) (ca : Nat → ClassId) (ar : Nat → Nat → Nat) (ag : Nat → Nat) (z : ZG) (hl0 : l.stackTraces = false) (P : RowsS) (G : GlbS) (ys : va_W) (ao : Nat) (O : Nat → Int64) (a1 : Int32) (h0 : t_X7_off P G a1 = some 1) (sz : Nat) : Met l yL_off (Cond.codeWith yL_off cL_off 4 (some .int) [(0, 9, 12, 18)] :: lw_all) rm_L_off (PCz z D ca (wC ar ag ca P G ++ (ys ++ [(ao, oc ca O)])) sz [.ref (ag 0), .int a1, .ref ao]) (QMw D (wC ar ag ca P G ++ (ys ++ [(ao, oc ca O)])) (wC ar ag ca P G ++ (ys ++ [(ao, oc ca O)])) sz (some (.int 1))) 1 6 (AL (wC ar ag ca P G ++ (ys ++ [(ao, oc ca O)])) sz) := by
  refine met_h (by decide) (Nat.le_of_ble_eq_true rfl) (fun p e s m args below meth c K htab hr0 hZ X hsz ls hl => ?_)
  have K : MC D ca p s m args meth c cL_off 4 RL := K
  have hx := K.1
  have hb := K.2.1
  have hl : lv_has ls 4 [(0, .ref (ag 0)), (1, .int a1), (2, .ref ao)] := hl
  generalize hQ : MQ below _ args s 1 6 _ = Q
  refine lv_aload_n hx hb dL_off_0 rfl (lv_at hl 2 rfl) ?_
  refine lv_iconst (v := 0) hx hb dL_off_1 (by decide) ?_
  refine lv_aload_n hx hb dL_off_2 rfl (lv_at hl 0 rfl) ?_
  refine lv_iload_n hx hb dL_off_3 rfl (lv_at hl 1 rfl) ?_
  have kx := x_X7_off l D ca ar ag z hl0 P G (ys ++ [(ao, oc ca O)]) a1 1 (by decide) h0 s.heap.size
  refine z_xcatchV (E := eN) K hZ X rfl kx hl.1 1 q909 q910 q911 q87 q912 hv_X7_off ⟨⟨Nat.le_of_ble_eq_true rfl, Nat.le_of_ble_eq_true rfl⟩, rfl, rfl⟩ (z_recvw K X (pl_glb (k := 0) (by decide)) rfl rfl) rfl rfl (Nat.le_of_ble_eq_true rfl) dL_off_4 ⟨Nat.le_of_ble_eq_true rfl, Nat.le_of_ble_eq_true rfl⟩ [] ⟨0, 9, 12, 18⟩ [] (htab.trans rfl) (fun _ h => nomatch h) (by decide) (by decide) q819 (List.mem_of_getElem? (i := 0) rfl) (fun q H locs X => ?_)
  refine lv_astore_n (lv' := [(3, .ref q), (0, .ref (ag 0)), (1, .int a1), (2, .ref ao)]) hx hb dL_off_12 rfl hl (by decide) rfl (fun ls hl => ?_)
  refine lv_iconst (v := 1) hx hb dL_off_13 (by decide) ?_
  subst hQ
  exact w_iret K hr0 X rfl hsz dL_off_14
-- L_difference
abbrev rm_L_difference : Room := { frames := 8, cells := 1, slots := 6, locals := 128 }
set_option maxRecDepth 100000 in
set_option maxHeartbeats 4000000 in
theorem n_L_difference (l : Launch) (D : va_G) (ca : Nat → ClassId) (ar : Nat → Nat → Nat) (ag : Nat → Nat) (z : ZG) (P : RowsS) (G : GlbS) (ys : va_W) (ao : Nat) (O : Nat → Int64) (a1 : Int32) (a2 : Int32) (res : Int32) (h0 : f_X7_difference P G a1 a2 = some res) (sz : Nat) : Met l yL_difference (Cond.codeWith yL_difference cL_difference 5 (some .int) [(0, 10, 13, 18)] :: lw_all) rm_L_difference (PCz z D ca (wC ar ag ca P G ++ (ys ++ [(ao, oc ca O)])) sz [.ref (ag 0), .int a1, .int a2, .ref ao]) (QMw D (wC ar ag ca P G ++ (ys ++ [(ao, oc ca O)])) (wC ar ag ca P G ++ (ys ++ [(ao, oc ca (va_up O 0 res.toInt64))])) sz (some (.int 0))) 1 6 (AL (wC ar ag ca P G ++ (ys ++ [(ao, oc ca O)])) sz) := by
  refine met_h (by decide) (Nat.le_of_ble_eq_true rfl) (fun p e s m args below meth c K htab hr0 hZ X hsz ls hl => ?_)
  have K : MC D ca p s m args meth c cL_difference 5 RL := K
  have hx := K.1
  have hb := K.2.1
  have hl : lv_has ls 5 [(0, .ref (ag 0)), (1, .int a1), (2, .int a2), (3, .ref ao)] := hl
  generalize hQ : MQ below _ args s 1 6 _ = Q
  refine lv_aload_n hx hb dL_difference_0 rfl (lv_at hl 3 rfl) ?_
  refine lv_iconst (v := 0) hx hb dL_difference_1 (by decide) ?_
  refine lv_aload_n hx hb dL_difference_2 rfl (lv_at hl 0 rfl) ?_
  refine lv_iload_n hx hb dL_difference_3 rfl (lv_at hl 1 rfl) ?_
  refine lv_iload_n hx hb dL_difference_4 rfl (lv_at hl 2 rfl) ?_
  have kx := m_X7_difference l D ca ar ag z P G (ys ++ [(ao, oc ca O)]) a1 a2 res h0 s.heap.size
  refine z_callVg K hZ X rfl wC_fstx kx hl.1 2 q916 q917 q918 q87 q919 hv_X7_difference ⟨⟨Nat.le_of_ble_eq_true rfl, Nat.le_of_ble_eq_true rfl⟩, rfl, rfl⟩ (z_recvw K X (pl_glb (k := 0) (by decide)) rfl rfl) rfl rfl (Nat.le_of_ble_eq_true rfl) dL_difference_5 ⟨Nat.le_of_ble_eq_true rfl, Nat.le_of_ble_eq_true rfl⟩ rfl (fun H locs X => ?_)
  refine lv_i2l hx hb dL_difference_8 rfl ?_
  refine w_last K X (241 + ys.length) ctor_atw (vp_in_iff.mpr (by decide)) (ctor_set (q' := (ao, oc ca (va_up O 0 res.toInt64)))) dL_difference_9 (fun H locs X => ?_)
  refine lv_goto (tgt := 17) hx hb dL_difference_10 (by decide) ?_
  refine lv_iconst (v := 0) hx hb dL_difference_17 (by decide) ?_
  subst hQ
  refine w_widen (k := 1) (n := 6) (Nat.le_of_ble_eq_true rfl) (Nat.le_of_ble_eq_true rfl) ?_
  exact w_iret K hr0 X xs_fst hsz dL_difference_18
set_option maxRecDepth 100000 in
set_option maxHeartbeats 4000000 in
theorem e1_L_difference (l : Launch) (D : va_G) (ca : Nat → ClassId) (ar : Nat → Nat → Nat) (ag : Nat → Nat) (z : ZG) (hl0 : l.stackTraces = false) (P : RowsS) (G : GlbS) (ys : va_W) (ao : Nat) (O : Nat → Int64) (a1 : Int32) (a2 : Int32) (h0 : t_X7_difference P G a1 a2 = some 1) (sz : Nat) : Met l yL_difference (Cond.codeWith yL_difference cL_difference 5 (some .int) [(0, 10, 13, 18)] :: lw_all) rm_L_difference (PCz z D ca (wC ar ag ca P G ++ (ys ++ [(ao, oc ca O)])) sz [.ref (ag 0), .int a1, .int a2, .ref ao]) (QMw D (wC ar ag ca P G ++ (ys ++ [(ao, oc ca O)])) (wC ar ag ca P G ++ (ys ++ [(ao, oc ca O)])) sz (some (.int 1))) 1 6 (AL (wC ar ag ca P G ++ (ys ++ [(ao, oc ca O)])) sz) := by
  refine met_h (by decide) (Nat.le_of_ble_eq_true rfl) (fun p e s m args below meth c K htab hr0 hZ X hsz ls hl => ?_)
  have K : MC D ca p s m args meth c cL_difference 5 RL := K
  have hx := K.1
  have hb := K.2.1
  have hl : lv_has ls 5 [(0, .ref (ag 0)), (1, .int a1), (2, .int a2), (3, .ref ao)] := hl
  generalize hQ : MQ below _ args s 1 6 _ = Q
  refine lv_aload_n hx hb dL_difference_0 rfl (lv_at hl 3 rfl) ?_
  refine lv_iconst (v := 0) hx hb dL_difference_1 (by decide) ?_
  refine lv_aload_n hx hb dL_difference_2 rfl (lv_at hl 0 rfl) ?_
  refine lv_iload_n hx hb dL_difference_3 rfl (lv_at hl 1 rfl) ?_
  refine lv_iload_n hx hb dL_difference_4 rfl (lv_at hl 2 rfl) ?_
  have kx := x_X7_difference l D ca ar ag z hl0 P G (ys ++ [(ao, oc ca O)]) a1 a2 1 (by decide) h0 s.heap.size
  refine z_xcatchV (E := eN) K hZ X rfl kx hl.1 2 q916 q917 q918 q87 q919 hv_X7_difference ⟨⟨Nat.le_of_ble_eq_true rfl, Nat.le_of_ble_eq_true rfl⟩, rfl, rfl⟩ (z_recvw K X (pl_glb (k := 0) (by decide)) rfl rfl) rfl rfl (Nat.le_of_ble_eq_true rfl) dL_difference_5 ⟨Nat.le_of_ble_eq_true rfl, Nat.le_of_ble_eq_true rfl⟩ [] ⟨0, 10, 13, 18⟩ [] (htab.trans rfl) (fun _ h => nomatch h) (by decide) (by decide) q819 (List.mem_of_getElem? (i := 0) rfl) (fun q H locs X => ?_)
  refine lv_astore (lv' := [(4, .ref q), (0, .ref (ag 0)), (1, .int a1), (2, .int a2), (3, .ref ao)]) hx hb dL_difference_13 hl (by decide) rfl (fun ls hl => ?_)
  refine lv_iconst (v := 1) hx hb dL_difference_15 (by decide) ?_
  subst hQ
  exact w_iret K hr0 X rfl hsz dL_difference_16
-- L_room
abbrev rm_L_room : Room := { frames := 8, cells := 1, slots := 6, locals := 126 }
set_option maxRecDepth 100000 in
set_option maxHeartbeats 4000000 in
theorem n_L_room (l : Launch) (D : va_G) (ca : Nat → ClassId) (ar : Nat → Nat → Nat) (ag : Nat → Nat) (z : ZG) (P : RowsS) (G : GlbS) (ys : va_W) (ao : Nat) (O : Nat → Int64) (a1 : Int32) (res : Int32) (h0 : f_X7_room P G a1 = some res) (sz : Nat) : Met l yL_room (Cond.codeWith yL_room cL_room 4 (some .int) [(0, 9, 12, 18)] :: lw_all) rm_L_room (PCz z D ca (wC ar ag ca P G ++ (ys ++ [(ao, oc ca O)])) sz [.ref (ag 0), .int a1, .ref ao]) (QMw D (wC ar ag ca P G ++ (ys ++ [(ao, oc ca O)])) (wC ar ag ca P G ++ (ys ++ [(ao, oc ca (va_up O 0 res.toInt64))])) sz (some (.int 0))) 1 6 (AL (wC ar ag ca P G ++ (ys ++ [(ao, oc ca O)])) sz) := by
  refine met_h (by decide) (Nat.le_of_ble_eq_true rfl) (fun p e s m args below meth c K htab hr0 hZ X hsz ls hl => ?_)
  have K : MC D ca p s m args meth c cL_room 4 RL := K
  have hx := K.1
  have hb := K.2.1
  have hl : lv_has ls 4 [(0, .ref (ag 0)), (1, .int a1), (2, .ref ao)] := hl
  generalize hQ : MQ below _ args s 1 6 _ = Q
  refine lv_aload_n hx hb dL_room_0 rfl (lv_at hl 2 rfl) ?_
  refine lv_iconst (v := 0) hx hb dL_room_1 (by decide) ?_
  refine lv_aload_n hx hb dL_room_2 rfl (lv_at hl 0 rfl) ?_
  refine lv_iload_n hx hb dL_room_3 rfl (lv_at hl 1 rfl) ?_
  have kx := m_X7_room l D ca ar ag z P G (ys ++ [(ao, oc ca O)]) a1 res h0 s.heap.size
  refine z_callVg K hZ X rfl wC_fstx kx hl.1 1 q923 q924 q925 q87 q926 hv_X7_room ⟨⟨Nat.le_of_ble_eq_true rfl, Nat.le_of_ble_eq_true rfl⟩, rfl, rfl⟩ (z_recvw K X (pl_glb (k := 0) (by decide)) rfl rfl) rfl rfl (Nat.le_of_ble_eq_true rfl) dL_room_4 ⟨Nat.le_of_ble_eq_true rfl, Nat.le_of_ble_eq_true rfl⟩ rfl (fun H locs X => ?_)
  refine lv_i2l hx hb dL_room_7 rfl ?_
  refine w_last K X (241 + ys.length) ctor_atw (vp_in_iff.mpr (by decide)) (ctor_set (q' := (ao, oc ca (va_up O 0 res.toInt64)))) dL_room_8 (fun H locs X => ?_)
  refine lv_goto (tgt := 15) hx hb dL_room_9 (by decide) ?_
  refine lv_iconst (v := 0) hx hb dL_room_15 (by decide) ?_
  subst hQ
  refine w_widen (k := 1) (n := 6) (Nat.le_of_ble_eq_true rfl) (Nat.le_of_ble_eq_true rfl) ?_
  exact w_iret K hr0 X xs_fst hsz dL_room_16
set_option maxRecDepth 100000 in
set_option maxHeartbeats 4000000 in
theorem e1_L_room (l : Launch) (D : va_G) (ca : Nat → ClassId) (ar : Nat → Nat → Nat) (ag : Nat → Nat) (z : ZG) (hl0 : l.stackTraces = false) (P : RowsS) (G : GlbS) (ys : va_W) (ao : Nat) (O : Nat → Int64) (a1 : Int32) (h0 : t_X7_room P G a1 = some 1) (sz : Nat) : Met l yL_room (Cond.codeWith yL_room cL_room 4 (some .int) [(0, 9, 12, 18)] :: lw_all) rm_L_room (PCz z D ca (wC ar ag ca P G ++ (ys ++ [(ao, oc ca O)])) sz [.ref (ag 0), .int a1, .ref ao]) (QMw D (wC ar ag ca P G ++ (ys ++ [(ao, oc ca O)])) (wC ar ag ca P G ++ (ys ++ [(ao, oc ca O)])) sz (some (.int 1))) 1 6 (AL (wC ar ag ca P G ++ (ys ++ [(ao, oc ca O)])) sz) := by
  refine met_h (by decide) (Nat.le_of_ble_eq_true rfl) (fun p e s m args below meth c K htab hr0 hZ X hsz ls hl => ?_)
  have K : MC D ca p s m args meth c cL_room 4 RL := K
  have hx := K.1
  have hb := K.2.1
  have hl : lv_has ls 4 [(0, .ref (ag 0)), (1, .int a1), (2, .ref ao)] := hl
  generalize hQ : MQ below _ args s 1 6 _ = Q
  refine lv_aload_n hx hb dL_room_0 rfl (lv_at hl 2 rfl) ?_
  refine lv_iconst (v := 0) hx hb dL_room_1 (by decide) ?_
  refine lv_aload_n hx hb dL_room_2 rfl (lv_at hl 0 rfl) ?_
  refine lv_iload_n hx hb dL_room_3 rfl (lv_at hl 1 rfl) ?_
  have kx := x_X7_room l D ca ar ag z hl0 P G (ys ++ [(ao, oc ca O)]) a1 1 (by decide) h0 s.heap.size
  refine z_xcatchV (E := eN) K hZ X rfl kx hl.1 1 q923 q924 q925 q87 q926 hv_X7_room ⟨⟨Nat.le_of_ble_eq_true rfl, Nat.le_of_ble_eq_true rfl⟩, rfl, rfl⟩ (z_recvw K X (pl_glb (k := 0) (by decide)) rfl rfl) rfl rfl (Nat.le_of_ble_eq_true rfl) dL_room_4 ⟨Nat.le_of_ble_eq_true rfl, Nat.le_of_ble_eq_true rfl⟩ [] ⟨0, 9, 12, 18⟩ [] (htab.trans rfl) (fun _ h => nomatch h) (by decide) (by decide) q819 (List.mem_of_getElem? (i := 0) rfl) (fun q H locs X => ?_)
  refine lv_astore_n (lv' := [(3, .ref q), (0, .ref (ag 0)), (1, .int a1), (2, .ref ao)]) hx hb dL_room_12 rfl hl (by decide) rfl (fun ls hl => ?_)
  refine lv_iconst (v := 1) hx hb dL_room_13 (by decide) ?_
  subst hQ
  exact w_iret K hr0 X rfl hsz dL_room_14
-- L_agree
abbrev rm_L_agree : Room := { frames := 8, cells := 1, slots := 6, locals := 133 }
set_option maxRecDepth 100000 in
set_option maxHeartbeats 4000000 in
theorem n_L_agree (l : Launch) (D : va_G) (ca : Nat → ClassId) (ar : Nat → Nat → Nat) (ag : Nat → Nat) (z : ZG) (n : Nat) (P : RowsS) (G : GlbS) (ys : va_W) (ao : Nat) (O : Nat → Int64) (a1 : Int32) (a2 : Int32) (res : Bool) (h0 : f_X7_agree n P G a1 a2 = some res) (sz : Nat) : Met l yL_agree (Cond.codeWith yL_agree cL_agree 5 (some .int) [(0, 17, 20, 18), (0, 17, 24, 13)] :: lw_all) rm_L_agree (PCz z D ca (wC ar ag ca P G ++ (ys ++ [(ao, oc ca O)])) sz [.ref (ag 0), .int a1, .int a2, .ref ao]) (QMw D (wC ar ag ca P G ++ (ys ++ [(ao, oc ca O)])) (wC ar ag ca P G ++ (ys ++ [(ao, oc ca (va_up O 0 (if res = true then 1 else 0)))])) sz (some (.int 0))) 1 6 (AL (wC ar ag ca P G ++ (ys ++ [(ao, oc ca O)])) sz) := by
  refine met_h (by decide) (Nat.le_of_ble_eq_true rfl) (fun p e s m args below meth c K htab hr0 hZ X hsz ls hl => ?_)
  have K : MC D ca p s m args meth c cL_agree 5 RL := K
  have hx := K.1
  have hb := K.2.1
  have hl : lv_has ls 5 [(0, .ref (ag 0)), (1, .int a1), (2, .int a2), (3, .ref ao)] := hl
  generalize hQ : MQ below _ args s 1 6 _ = Q
  refine lv_aload_n hx hb dL_agree_0 rfl (lv_at hl 3 rfl) ?_
  refine lv_iconst (v := 0) hx hb dL_agree_1 (by decide) ?_
  refine lv_aload_n hx hb dL_agree_2 rfl (lv_at hl 0 rfl) ?_
  refine lv_iload_n hx hb dL_agree_3 rfl (lv_at hl 1 rfl) ?_
  refine lv_iload_n hx hb dL_agree_4 rfl (lv_at hl 2 rfl) ?_
  have kx := m_X7_agree l D ca ar ag z n P G (ys ++ [(ao, oc ca O)]) a1 a2 res h0 s.heap.size
  refine z_callVg K hZ X rfl wC_fstx kx hl.1 2 q931 q932 q933 q87 q934 hv_X7_agree ⟨⟨Nat.le_of_ble_eq_true rfl, Nat.le_of_ble_eq_true rfl⟩, rfl, rfl⟩ (z_recvw K X (pl_glb (k := 0) (by decide)) rfl rfl) rfl rfl (Nat.le_of_ble_eq_true rfl) dL_agree_5 ⟨Nat.le_of_ble_eq_true rfl, Nat.le_of_ble_eq_true rfl⟩ rfl (fun H locs X => ?_)
  refine w_zeq (tgt := 15) K dL_agree_8 (by decide) (fun cb => ?_) (fun cb => ?_)
  · cases res
    · refine lv_lconst (v := 0) hx hb dL_agree_15 (by decide) ?_
      refine w_last K X (241 + ys.length) ctor_atw (vp_in_iff.mpr (by decide)) (ctor_set (q' := (ao, oc ca (va_up O 0 0)))) dL_agree_16 (fun H locs X => ?_)
      refine lv_goto (tgt := 28) hx hb dL_agree_17 (by decide) ?_
      refine lv_iconst (v := 0) hx hb dL_agree_28 (by decide) ?_
      subst hQ
      refine w_widen (k := 1) (n := 6) (Nat.le_of_ble_eq_true rfl) (Nat.le_of_ble_eq_true rfl) ?_
      exact w_iret K hr0 X xs_fst hsz dL_agree_29
    · exact (cb rfl).elim
  · cases res
    · cases cb
    · refine lv_lconst (v := 1) hx hb dL_agree_11 (by decide) ?_
      refine lv_goto (tgt := 16) hx hb dL_agree_12 (by decide) ?_
      refine w_last K X (241 + ys.length) ctor_atw (vp_in_iff.mpr (by decide)) (ctor_set (q' := (ao, oc ca (va_up O 0 1)))) dL_agree_16 (fun H locs X => ?_)
      refine lv_goto (tgt := 28) hx hb dL_agree_17 (by decide) ?_
      refine lv_iconst (v := 0) hx hb dL_agree_28 (by decide) ?_
      subst hQ
      refine w_widen (k := 1) (n := 6) (Nat.le_of_ble_eq_true rfl) (Nat.le_of_ble_eq_true rfl) ?_
      exact w_iret K hr0 X xs_fst hsz dL_agree_29
set_option maxRecDepth 100000 in
set_option maxHeartbeats 4000000 in
theorem e1_L_agree (l : Launch) (D : va_G) (ca : Nat → ClassId) (ar : Nat → Nat → Nat) (ag : Nat → Nat) (z : ZG) (hl0 : l.stackTraces = false) (P : RowsS) (G : GlbS) (ys : va_W) (ao : Nat) (O : Nat → Int64) (a1 : Int32) (a2 : Int32) (h0 : t_X7_agree P G a1 a2 = some 1) (sz : Nat) : Met l yL_agree (Cond.codeWith yL_agree cL_agree 5 (some .int) [(0, 17, 20, 18), (0, 17, 24, 13)] :: lw_all) rm_L_agree (PCz z D ca (wC ar ag ca P G ++ (ys ++ [(ao, oc ca O)])) sz [.ref (ag 0), .int a1, .int a2, .ref ao]) (QMw D (wC ar ag ca P G ++ (ys ++ [(ao, oc ca O)])) (wC ar ag ca P G ++ (ys ++ [(ao, oc ca O)])) sz (some (.int 1))) 1 6 (AL (wC ar ag ca P G ++ (ys ++ [(ao, oc ca O)])) sz) := by
  refine met_h (by decide) (Nat.le_of_ble_eq_true rfl) (fun p e s m args below meth c K htab hr0 hZ X hsz ls hl => ?_)
  have K : MC D ca p s m args meth c cL_agree 5 RL := K
  have hx := K.1
  have hb := K.2.1
  have hl : lv_has ls 5 [(0, .ref (ag 0)), (1, .int a1), (2, .int a2), (3, .ref ao)] := hl
  generalize hQ : MQ below _ args s 1 6 _ = Q
  refine lv_aload_n hx hb dL_agree_0 rfl (lv_at hl 3 rfl) ?_
  refine lv_iconst (v := 0) hx hb dL_agree_1 (by decide) ?_
  refine lv_aload_n hx hb dL_agree_2 rfl (lv_at hl 0 rfl) ?_
  refine lv_iload_n hx hb dL_agree_3 rfl (lv_at hl 1 rfl) ?_
  refine lv_iload_n hx hb dL_agree_4 rfl (lv_at hl 2 rfl) ?_
  have kx := x_X7_agree l D ca ar ag z hl0 P G (ys ++ [(ao, oc ca O)]) a1 a2 1 (by decide) h0 s.heap.size
  refine z_xcatchV (E := eN) K hZ X rfl kx hl.1 2 q931 q932 q933 q87 q934 hv_X7_agree ⟨⟨Nat.le_of_ble_eq_true rfl, Nat.le_of_ble_eq_true rfl⟩, rfl, rfl⟩ (z_recvw K X (pl_glb (k := 0) (by decide)) rfl rfl) rfl rfl (Nat.le_of_ble_eq_true rfl) dL_agree_5 ⟨Nat.le_of_ble_eq_true rfl, Nat.le_of_ble_eq_true rfl⟩ [] ⟨0, 17, 20, 18⟩ [⟨0, 17, 24, 13⟩] (htab.trans rfl) (fun _ h => nomatch h) (by decide) (by decide) q819 (List.mem_of_getElem? (i := 0) rfl) (fun q H locs X => ?_)
  refine lv_astore (lv' := [(4, .ref q), (0, .ref (ag 0)), (1, .int a1), (2, .int a2), (3, .ref ao)]) hx hb dL_agree_20 hl (by decide) rfl (fun ls hl => ?_)
  refine lv_iconst (v := 1) hx hb dL_agree_22 (by decide) ?_
  subst hQ
  exact w_iret K hr0 X rfl hsz dL_agree_23
set_option maxRecDepth 100000 in
set_option maxHeartbeats 4000000 in
theorem e2_L_agree (l : Launch) (D : va_G) (ca : Nat → ClassId) (ar : Nat → Nat → Nat) (ag : Nat → Nat) (z : ZG) (hl0 : l.stackTraces = false) (P : RowsS) (G : GlbS) (ys : va_W) (ao : Nat) (O : Nat → Int64) (a1 : Int32) (a2 : Int32) (h0 : t_X7_agree P G a1 a2 = some 2) (sz : Nat) : Met l yL_agree (Cond.codeWith yL_agree cL_agree 5 (some .int) [(0, 17, 20, 18), (0, 17, 24, 13)] :: lw_all) rm_L_agree (PCz z D ca (wC ar ag ca P G ++ (ys ++ [(ao, oc ca O)])) sz [.ref (ag 0), .int a1, .int a2, .ref ao]) (QMw D (wC ar ag ca P G ++ (ys ++ [(ao, oc ca O)])) (wC ar ag ca P G ++ (ys ++ [(ao, oc ca O)])) sz (some (.int 2))) 1 6 (AL (wC ar ag ca P G ++ (ys ++ [(ao, oc ca O)])) sz) := by
  refine met_h (by decide) (Nat.le_of_ble_eq_true rfl) (fun p e s m args below meth c K htab hr0 hZ X hsz ls hl => ?_)
  have K : MC D ca p s m args meth c cL_agree 5 RL := K
  have hx := K.1
  have hb := K.2.1
  have hl : lv_has ls 5 [(0, .ref (ag 0)), (1, .int a1), (2, .int a2), (3, .ref ao)] := hl
  generalize hQ : MQ below _ args s 1 6 _ = Q
  refine lv_aload_n hx hb dL_agree_0 rfl (lv_at hl 3 rfl) ?_
  refine lv_iconst (v := 0) hx hb dL_agree_1 (by decide) ?_
  refine lv_aload_n hx hb dL_agree_2 rfl (lv_at hl 0 rfl) ?_
  refine lv_iload_n hx hb dL_agree_3 rfl (lv_at hl 1 rfl) ?_
  refine lv_iload_n hx hb dL_agree_4 rfl (lv_at hl 2 rfl) ?_
  have kx := x_X7_agree l D ca ar ag z hl0 P G (ys ++ [(ao, oc ca O)]) a1 a2 2 (by decide) h0 s.heap.size
  refine z_xcatchV (E := eI) K hZ X rfl kx hl.1 2 q931 q932 q933 q87 q934 hv_X7_agree ⟨⟨Nat.le_of_ble_eq_true rfl, Nat.le_of_ble_eq_true rfl⟩, rfl, rfl⟩ (z_recvw K X (pl_glb (k := 0) (by decide)) rfl rfl) rfl rfl (Nat.le_of_ble_eq_true rfl) dL_agree_5 ⟨Nat.le_of_ble_eq_true rfl, Nat.le_of_ble_eq_true rfl⟩ [⟨0, 17, 20, 18⟩] ⟨0, 17, 24, 13⟩ [] (htab.trans rfl) (fun q hq => by rw [List.mem_singleton] at hq; subst hq; exact Or.inr ⟨by decide, eN, K.2.2.2.2.1 _ q819, hZ.2.2.2.2.2.2.2.2.2.2.1⟩) (by decide) (by decide) q552 (List.mem_of_getElem? (i := 1) rfl) (fun q H locs X => ?_)
  refine lv_astore (lv' := [(4, .ref q), (0, .ref (ag 0)), (1, .int a1), (2, .int a2), (3, .ref ao)]) hx hb dL_agree_24 hl (by decide) rfl (fun ls hl => ?_)
  refine lv_iconst (v := 2) hx hb dL_agree_26 (by decide) ?_
  subst hQ
  exact w_iret K hr0 X rfl hsz dL_agree_27
-- L_wouldBreak
abbrev rm_L_wouldBreak : Room := { frames := 8, cells := 1, slots := 6, locals := 212 }
set_option maxRecDepth 100000 in
set_option maxHeartbeats 4000000 in
theorem n_L_wouldBreak (l : Launch) (D : va_G) (ca : Nat → ClassId) (ar : Nat → Nat → Nat) (ag : Nat → Nat) (z : ZG) (n : Nat) (P : RowsS) (G : GlbS) (ys : va_W) (ao : Nat) (O : Nat → Int64) (a1 : Int32) (a2 : Int32) (res : Int32) (P' : RowsS) (h0 : f_X7_wouldBreak n P G a1 a2 = some (res, P')) (sz : Nat) : Met l yL_wouldBreak (Cond.codeWith yL_wouldBreak cL_wouldBreak 5 (some .int) [(0, 10, 13, 18), (0, 10, 17, 13)] :: lw_all) rm_L_wouldBreak (PCz z D ca (wC ar ag ca P G ++ (ys ++ [(ao, oc ca O)])) sz [.ref (ag 0), .int a1, .int a2, .ref ao]) (QMw D (wC ar ag ca P G ++ (ys ++ [(ao, oc ca O)])) (wC ar ag ca P' G ++ (ys ++ [(ao, oc ca (va_up O 0 res.toInt64))])) sz (some (.int 0))) 1 6 (AL (wC ar ag ca P G ++ (ys ++ [(ao, oc ca O)])) sz) := by
  refine met_h (by decide) (Nat.le_of_ble_eq_true rfl) (fun p e s m args below meth c K htab hr0 hZ X hsz ls hl => ?_)
  have K : MC D ca p s m args meth c cL_wouldBreak 5 RL := K
  have hx := K.1
  have hb := K.2.1
  have hl : lv_has ls 5 [(0, .ref (ag 0)), (1, .int a1), (2, .int a2), (3, .ref ao)] := hl
  generalize hQ : MQ below _ args s 1 6 _ = Q
  refine lv_aload_n hx hb dL_wouldBreak_0 rfl (lv_at hl 3 rfl) ?_
  refine lv_iconst (v := 0) hx hb dL_wouldBreak_1 (by decide) ?_
  refine lv_aload_n hx hb dL_wouldBreak_2 rfl (lv_at hl 0 rfl) ?_
  refine lv_iload_n hx hb dL_wouldBreak_3 rfl (lv_at hl 1 rfl) ?_
  refine lv_iload_n hx hb dL_wouldBreak_4 rfl (lv_at hl 2 rfl) ?_
  have kx := m_X7_wouldBreak l D ca ar ag z n P G (ys ++ [(ao, oc ca O)]) a1 a2 res P' h0 s.heap.size
  refine z_callVg K hZ X rfl wC_fstx kx hl.1 2 q943 q944 q945 q87 q946 hv_X7_wouldBreak ⟨⟨Nat.le_of_ble_eq_true rfl, Nat.le_of_ble_eq_true rfl⟩, rfl, rfl⟩ (z_recvw K X (pl_glb (k := 0) (by decide)) rfl rfl) rfl rfl (Nat.le_of_ble_eq_true rfl) dL_wouldBreak_5 ⟨Nat.le_of_ble_eq_true rfl, Nat.le_of_ble_eq_true rfl⟩ rfl (fun H locs X => ?_)
  refine lv_i2l hx hb dL_wouldBreak_8 rfl ?_
  refine w_last K X (241 + ys.length) ctor_atw (vp_in_iff.mpr (by decide)) (ctor_set (q' := (ao, oc ca (va_up O 0 res.toInt64)))) dL_wouldBreak_9 (fun H locs X => ?_)
  refine lv_goto (tgt := 21) hx hb dL_wouldBreak_10 (by decide) ?_
  refine lv_iconst (v := 0) hx hb dL_wouldBreak_21 (by decide) ?_
  subst hQ
  refine w_widen (k := 1) (n := 6) (Nat.le_of_ble_eq_true rfl) (Nat.le_of_ble_eq_true rfl) ?_
  exact w_iret K hr0 X xs_fst hsz dL_wouldBreak_22
set_option maxRecDepth 100000 in
set_option maxHeartbeats 4000000 in
theorem e1_L_wouldBreak (l : Launch) (D : va_G) (ca : Nat → ClassId) (ar : Nat → Nat → Nat) (ag : Nat → Nat) (z : ZG) (hl0 : l.stackTraces = false) (P : RowsS) (G : GlbS) (ys : va_W) (ao : Nat) (O : Nat → Int64) (a1 : Int32) (a2 : Int32) (h0 : t_X7_wouldBreak P G a1 a2 = some 1) (sz : Nat) : Met l yL_wouldBreak (Cond.codeWith yL_wouldBreak cL_wouldBreak 5 (some .int) [(0, 10, 13, 18), (0, 10, 17, 13)] :: lw_all) rm_L_wouldBreak (PCz z D ca (wC ar ag ca P G ++ (ys ++ [(ao, oc ca O)])) sz [.ref (ag 0), .int a1, .int a2, .ref ao]) (QMw D (wC ar ag ca P G ++ (ys ++ [(ao, oc ca O)])) (wC ar ag ca P G ++ (ys ++ [(ao, oc ca O)])) sz (some (.int 1))) 1 6 (AL (wC ar ag ca P G ++ (ys ++ [(ao, oc ca O)])) sz) := by
  refine met_h (by decide) (Nat.le_of_ble_eq_true rfl) (fun p e s m args below meth c K htab hr0 hZ X hsz ls hl => ?_)
  have K : MC D ca p s m args meth c cL_wouldBreak 5 RL := K
  have hx := K.1
  have hb := K.2.1
  have hl : lv_has ls 5 [(0, .ref (ag 0)), (1, .int a1), (2, .int a2), (3, .ref ao)] := hl
  generalize hQ : MQ below _ args s 1 6 _ = Q
  refine lv_aload_n hx hb dL_wouldBreak_0 rfl (lv_at hl 3 rfl) ?_
  refine lv_iconst (v := 0) hx hb dL_wouldBreak_1 (by decide) ?_
  refine lv_aload_n hx hb dL_wouldBreak_2 rfl (lv_at hl 0 rfl) ?_
  refine lv_iload_n hx hb dL_wouldBreak_3 rfl (lv_at hl 1 rfl) ?_
  refine lv_iload_n hx hb dL_wouldBreak_4 rfl (lv_at hl 2 rfl) ?_
  have kx := x_X7_wouldBreak l D ca ar ag z hl0 P G (ys ++ [(ao, oc ca O)]) a1 a2 1 (by decide) h0 s.heap.size
  refine z_xcatchV (E := eN) K hZ X rfl kx hl.1 2 q943 q944 q945 q87 q946 hv_X7_wouldBreak ⟨⟨Nat.le_of_ble_eq_true rfl, Nat.le_of_ble_eq_true rfl⟩, rfl, rfl⟩ (z_recvw K X (pl_glb (k := 0) (by decide)) rfl rfl) rfl rfl (Nat.le_of_ble_eq_true rfl) dL_wouldBreak_5 ⟨Nat.le_of_ble_eq_true rfl, Nat.le_of_ble_eq_true rfl⟩ [] ⟨0, 10, 13, 18⟩ [⟨0, 10, 17, 13⟩] (htab.trans rfl) (fun _ h => nomatch h) (by decide) (by decide) q819 (List.mem_of_getElem? (i := 0) rfl) (fun q H locs X => ?_)
  refine lv_astore (lv' := [(4, .ref q), (0, .ref (ag 0)), (1, .int a1), (2, .int a2), (3, .ref ao)]) hx hb dL_wouldBreak_13 hl (by decide) rfl (fun ls hl => ?_)
  refine lv_iconst (v := 1) hx hb dL_wouldBreak_15 (by decide) ?_
  subst hQ
  exact w_iret K hr0 X rfl hsz dL_wouldBreak_16
set_option maxRecDepth 100000 in
set_option maxHeartbeats 4000000 in
theorem e2_L_wouldBreak (l : Launch) (D : va_G) (ca : Nat → ClassId) (ar : Nat → Nat → Nat) (ag : Nat → Nat) (z : ZG) (hl0 : l.stackTraces = false) (P : RowsS) (G : GlbS) (ys : va_W) (ao : Nat) (O : Nat → Int64) (a1 : Int32) (a2 : Int32) (h0 : t_X7_wouldBreak P G a1 a2 = some 2) (sz : Nat) : Met l yL_wouldBreak (Cond.codeWith yL_wouldBreak cL_wouldBreak 5 (some .int) [(0, 10, 13, 18), (0, 10, 17, 13)] :: lw_all) rm_L_wouldBreak (PCz z D ca (wC ar ag ca P G ++ (ys ++ [(ao, oc ca O)])) sz [.ref (ag 0), .int a1, .int a2, .ref ao]) (QMw D (wC ar ag ca P G ++ (ys ++ [(ao, oc ca O)])) (wC ar ag ca P G ++ (ys ++ [(ao, oc ca O)])) sz (some (.int 2))) 1 6 (AL (wC ar ag ca P G ++ (ys ++ [(ao, oc ca O)])) sz) := by
  refine met_h (by decide) (Nat.le_of_ble_eq_true rfl) (fun p e s m args below meth c K htab hr0 hZ X hsz ls hl => ?_)
  have K : MC D ca p s m args meth c cL_wouldBreak 5 RL := K
  have hx := K.1
  have hb := K.2.1
  have hl : lv_has ls 5 [(0, .ref (ag 0)), (1, .int a1), (2, .int a2), (3, .ref ao)] := hl
  generalize hQ : MQ below _ args s 1 6 _ = Q
  refine lv_aload_n hx hb dL_wouldBreak_0 rfl (lv_at hl 3 rfl) ?_
  refine lv_iconst (v := 0) hx hb dL_wouldBreak_1 (by decide) ?_
  refine lv_aload_n hx hb dL_wouldBreak_2 rfl (lv_at hl 0 rfl) ?_
  refine lv_iload_n hx hb dL_wouldBreak_3 rfl (lv_at hl 1 rfl) ?_
  refine lv_iload_n hx hb dL_wouldBreak_4 rfl (lv_at hl 2 rfl) ?_
  have kx := x_X7_wouldBreak l D ca ar ag z hl0 P G (ys ++ [(ao, oc ca O)]) a1 a2 2 (by decide) h0 s.heap.size
  refine z_xcatchV (E := eI) K hZ X rfl kx hl.1 2 q943 q944 q945 q87 q946 hv_X7_wouldBreak ⟨⟨Nat.le_of_ble_eq_true rfl, Nat.le_of_ble_eq_true rfl⟩, rfl, rfl⟩ (z_recvw K X (pl_glb (k := 0) (by decide)) rfl rfl) rfl rfl (Nat.le_of_ble_eq_true rfl) dL_wouldBreak_5 ⟨Nat.le_of_ble_eq_true rfl, Nat.le_of_ble_eq_true rfl⟩ [⟨0, 10, 13, 18⟩] ⟨0, 10, 17, 13⟩ [] (htab.trans rfl) (fun q hq => by rw [List.mem_singleton] at hq; subst hq; exact Or.inr ⟨by decide, eN, K.2.2.2.2.1 _ q819, hZ.2.2.2.2.2.2.2.2.2.2.1⟩) (by decide) (by decide) q552 (List.mem_of_getElem? (i := 1) rfl) (fun q H locs X => ?_)
  refine lv_astore (lv' := [(4, .ref q), (0, .ref (ag 0)), (1, .int a1), (2, .int a2), (3, .ref ao)]) hx hb dL_wouldBreak_17 hl (by decide) rfl (fun ls hl => ?_)
  refine lv_iconst (v := 2) hx hb dL_wouldBreak_19 (by decide) ?_
  subst hQ
  exact w_iret K hr0 X rfl hsz dL_wouldBreak_20
-- L_readingWith
abbrev rm_L_readingWith : Room := { frames := 8, cells := 1, slots := 6, locals := 211 }
set_option maxRecDepth 100000 in
set_option maxHeartbeats 4000000 in
theorem n_L_readingWith (l : Launch) (D : va_G) (ca : Nat → ClassId) (ar : Nat → Nat → Nat) (ag : Nat → Nat) (z : ZG) (n : Nat) (P : RowsS) (G : GlbS) (ys : va_W) (ao : Nat) (O : Nat → Int64) (a1 : Int32) (a2 : Int32) (a3 : Int32) (res : Int32) (P' : RowsS) (h0 : f_X7_readingWith n P G a1 a2 a3 = some (res, P')) (sz : Nat) : Met l yL_readingWith (Cond.codeWith yL_readingWith cL_readingWith 6 (some .int) [(0, 12, 15, 18), (0, 12, 19, 13)] :: lw_all) rm_L_readingWith (PCz z D ca (wC ar ag ca P G ++ (ys ++ [(ao, oc ca O)])) sz [.ref (ag 0), .int a1, .int a2, .int a3, .ref ao]) (QMw D (wC ar ag ca P G ++ (ys ++ [(ao, oc ca O)])) (wC ar ag ca P' G ++ (ys ++ [(ao, oc ca (va_up O 0 res.toInt64))])) sz (some (.int 0))) 1 6 (AL (wC ar ag ca P G ++ (ys ++ [(ao, oc ca O)])) sz) := by
  refine met_h (by decide) (Nat.le_of_ble_eq_true rfl) (fun p e s m args below meth c K htab hr0 hZ X hsz ls hl => ?_)
  have K : MC D ca p s m args meth c cL_readingWith 6 RL := K
  have hx := K.1
  have hb := K.2.1
  have hl : lv_has ls 6 [(0, .ref (ag 0)), (1, .int a1), (2, .int a2), (3, .int a3), (4, .ref ao)] := hl
  generalize hQ : MQ below _ args s 1 6 _ = Q
  refine lv_aload hx hb dL_readingWith_0 (lv_at hl 4 rfl) ?_
  refine lv_iconst (v := 0) hx hb dL_readingWith_2 (by decide) ?_
  refine lv_aload_n hx hb dL_readingWith_3 rfl (lv_at hl 0 rfl) ?_
  refine lv_iload_n hx hb dL_readingWith_4 rfl (lv_at hl 1 rfl) ?_
  refine lv_iload_n hx hb dL_readingWith_5 rfl (lv_at hl 2 rfl) ?_
  refine lv_iload_n hx hb dL_readingWith_6 rfl (lv_at hl 3 rfl) ?_
  have kx := m_X7_readingWith l D ca ar ag z n P G (ys ++ [(ao, oc ca O)]) a1 a2 a3 res P' h0 s.heap.size
  refine z_callVg K hZ X rfl wC_fstx kx hl.1 3 q955 q956 q957 q87 q958 hv_X7_readingWith ⟨⟨Nat.le_of_ble_eq_true rfl, Nat.le_of_ble_eq_true rfl⟩, rfl, rfl⟩ (z_recvw K X (pl_glb (k := 0) (by decide)) rfl rfl) rfl rfl (Nat.le_of_ble_eq_true rfl) dL_readingWith_7 ⟨Nat.le_of_ble_eq_true rfl, Nat.le_of_ble_eq_true rfl⟩ rfl (fun H locs X => ?_)
  refine lv_i2l hx hb dL_readingWith_10 rfl ?_
  refine w_last K X (241 + ys.length) ctor_atw (vp_in_iff.mpr (by decide)) (ctor_set (q' := (ao, oc ca (va_up O 0 res.toInt64)))) dL_readingWith_11 (fun H locs X => ?_)
  refine lv_goto (tgt := 23) hx hb dL_readingWith_12 (by decide) ?_
  refine lv_iconst (v := 0) hx hb dL_readingWith_23 (by decide) ?_
  subst hQ
  refine w_widen (k := 1) (n := 6) (Nat.le_of_ble_eq_true rfl) (Nat.le_of_ble_eq_true rfl) ?_
  exact w_iret K hr0 X xs_fst hsz dL_readingWith_24
set_option maxRecDepth 100000 in
set_option maxHeartbeats 4000000 in
theorem e1_L_readingWith (l : Launch) (D : va_G) (ca : Nat → ClassId) (ar : Nat → Nat → Nat) (ag : Nat → Nat) (z : ZG) (hl0 : l.stackTraces = false) (P : RowsS) (G : GlbS) (ys : va_W) (ao : Nat) (O : Nat → Int64) (a1 : Int32) (a2 : Int32) (a3 : Int32) (h0 : t_X7_readingWith P G a1 a2 a3 = some 1) (sz : Nat) : Met l yL_readingWith (Cond.codeWith yL_readingWith cL_readingWith 6 (some .int) [(0, 12, 15, 18), (0, 12, 19, 13)] :: lw_all) rm_L_readingWith (PCz z D ca (wC ar ag ca P G ++ (ys ++ [(ao, oc ca O)])) sz [.ref (ag 0), .int a1, .int a2, .int a3, .ref ao]) (QMw D (wC ar ag ca P G ++ (ys ++ [(ao, oc ca O)])) (wC ar ag ca P G ++ (ys ++ [(ao, oc ca O)])) sz (some (.int 1))) 1 6 (AL (wC ar ag ca P G ++ (ys ++ [(ao, oc ca O)])) sz) := by
  refine met_h (by decide) (Nat.le_of_ble_eq_true rfl) (fun p e s m args below meth c K htab hr0 hZ X hsz ls hl => ?_)
  have K : MC D ca p s m args meth c cL_readingWith 6 RL := K
  have hx := K.1
  have hb := K.2.1
  have hl : lv_has ls 6 [(0, .ref (ag 0)), (1, .int a1), (2, .int a2), (3, .int a3), (4, .ref ao)] := hl
  generalize hQ : MQ below _ args s 1 6 _ = Q
  refine lv_aload hx hb dL_readingWith_0 (lv_at hl 4 rfl) ?_
  refine lv_iconst (v := 0) hx hb dL_readingWith_2 (by decide) ?_
  refine lv_aload_n hx hb dL_readingWith_3 rfl (lv_at hl 0 rfl) ?_
  refine lv_iload_n hx hb dL_readingWith_4 rfl (lv_at hl 1 rfl) ?_
  refine lv_iload_n hx hb dL_readingWith_5 rfl (lv_at hl 2 rfl) ?_
  refine lv_iload_n hx hb dL_readingWith_6 rfl (lv_at hl 3 rfl) ?_
  have kx := x_X7_readingWith l D ca ar ag z hl0 P G (ys ++ [(ao, oc ca O)]) a1 a2 a3 1 (by decide) h0 s.heap.size
  refine z_xcatchV (E := eN) K hZ X rfl kx hl.1 3 q955 q956 q957 q87 q958 hv_X7_readingWith ⟨⟨Nat.le_of_ble_eq_true rfl, Nat.le_of_ble_eq_true rfl⟩, rfl, rfl⟩ (z_recvw K X (pl_glb (k := 0) (by decide)) rfl rfl) rfl rfl (Nat.le_of_ble_eq_true rfl) dL_readingWith_7 ⟨Nat.le_of_ble_eq_true rfl, Nat.le_of_ble_eq_true rfl⟩ [] ⟨0, 12, 15, 18⟩ [⟨0, 12, 19, 13⟩] (htab.trans rfl) (fun _ h => nomatch h) (by decide) (by decide) q819 (List.mem_of_getElem? (i := 0) rfl) (fun q H locs X => ?_)
  refine lv_astore (lv' := [(5, .ref q), (0, .ref (ag 0)), (1, .int a1), (2, .int a2), (3, .int a3), (4, .ref ao)]) hx hb dL_readingWith_15 hl (by decide) rfl (fun ls hl => ?_)
  refine lv_iconst (v := 1) hx hb dL_readingWith_17 (by decide) ?_
  subst hQ
  exact w_iret K hr0 X rfl hsz dL_readingWith_18
set_option maxRecDepth 100000 in
set_option maxHeartbeats 4000000 in
theorem e2_L_readingWith (l : Launch) (D : va_G) (ca : Nat → ClassId) (ar : Nat → Nat → Nat) (ag : Nat → Nat) (z : ZG) (hl0 : l.stackTraces = false) (P : RowsS) (G : GlbS) (ys : va_W) (ao : Nat) (O : Nat → Int64) (a1 : Int32) (a2 : Int32) (a3 : Int32) (h0 : t_X7_readingWith P G a1 a2 a3 = some 2) (sz : Nat) : Met l yL_readingWith (Cond.codeWith yL_readingWith cL_readingWith 6 (some .int) [(0, 12, 15, 18), (0, 12, 19, 13)] :: lw_all) rm_L_readingWith (PCz z D ca (wC ar ag ca P G ++ (ys ++ [(ao, oc ca O)])) sz [.ref (ag 0), .int a1, .int a2, .int a3, .ref ao]) (QMw D (wC ar ag ca P G ++ (ys ++ [(ao, oc ca O)])) (wC ar ag ca P G ++ (ys ++ [(ao, oc ca O)])) sz (some (.int 2))) 1 6 (AL (wC ar ag ca P G ++ (ys ++ [(ao, oc ca O)])) sz) := by
  refine met_h (by decide) (Nat.le_of_ble_eq_true rfl) (fun p e s m args below meth c K htab hr0 hZ X hsz ls hl => ?_)
  have K : MC D ca p s m args meth c cL_readingWith 6 RL := K
  have hx := K.1
  have hb := K.2.1
  have hl : lv_has ls 6 [(0, .ref (ag 0)), (1, .int a1), (2, .int a2), (3, .int a3), (4, .ref ao)] := hl
  generalize hQ : MQ below _ args s 1 6 _ = Q
  refine lv_aload hx hb dL_readingWith_0 (lv_at hl 4 rfl) ?_
  refine lv_iconst (v := 0) hx hb dL_readingWith_2 (by decide) ?_
  refine lv_aload_n hx hb dL_readingWith_3 rfl (lv_at hl 0 rfl) ?_
  refine lv_iload_n hx hb dL_readingWith_4 rfl (lv_at hl 1 rfl) ?_
  refine lv_iload_n hx hb dL_readingWith_5 rfl (lv_at hl 2 rfl) ?_
  refine lv_iload_n hx hb dL_readingWith_6 rfl (lv_at hl 3 rfl) ?_
  have kx := x_X7_readingWith l D ca ar ag z hl0 P G (ys ++ [(ao, oc ca O)]) a1 a2 a3 2 (by decide) h0 s.heap.size
  refine z_xcatchV (E := eI) K hZ X rfl kx hl.1 3 q955 q956 q957 q87 q958 hv_X7_readingWith ⟨⟨Nat.le_of_ble_eq_true rfl, Nat.le_of_ble_eq_true rfl⟩, rfl, rfl⟩ (z_recvw K X (pl_glb (k := 0) (by decide)) rfl rfl) rfl rfl (Nat.le_of_ble_eq_true rfl) dL_readingWith_7 ⟨Nat.le_of_ble_eq_true rfl, Nat.le_of_ble_eq_true rfl⟩ [⟨0, 12, 15, 18⟩] ⟨0, 12, 19, 13⟩ [] (htab.trans rfl) (fun q hq => by rw [List.mem_singleton] at hq; subst hq; exact Or.inr ⟨by decide, eN, K.2.2.2.2.1 _ q819, hZ.2.2.2.2.2.2.2.2.2.2.1⟩) (by decide) (by decide) q552 (List.mem_of_getElem? (i := 1) rfl) (fun q H locs X => ?_)
  refine lv_astore (lv' := [(5, .ref q), (0, .ref (ag 0)), (1, .int a1), (2, .int a2), (3, .int a3), (4, .ref ao)]) hx hb dL_readingWith_19 hl (by decide) rfl (fun ls hl => ?_)
  refine lv_iconst (v := 2) hx hb dL_readingWith_21 (by decide) ?_
  subst hQ
  exact w_iret K hr0 X rfl hsz dL_readingWith_22
-- L_breaksIn
abbrev rm_L_breaksIn : Room := { frames := 8, cells := 1, slots := 6, locals := 190 }
set_option maxRecDepth 100000 in
set_option maxHeartbeats 4000000 in
theorem n_L_breaksIn (l : Launch) (D : va_G) (ca : Nat → ClassId) (ar : Nat → Nat → Nat) (ag : Nat → Nat) (z : ZG) (n : Nat) (P : RowsS) (G : GlbS) (ys : va_W) (ao : Nat) (O : Nat → Int64) (a1 : Int32) (a2 : Int32) (res : Int32) (P' : RowsS) (h0 : f_X7_breaksIn n P G a1 a2 = some (res, P')) (sz : Nat) : Met l yL_breaksIn (Cond.codeWith yL_breaksIn cL_breaksIn 5 (some .int) [(0, 10, 13, 18), (0, 10, 17, 13)] :: lw_all) rm_L_breaksIn (PCz z D ca (wC ar ag ca P G ++ (ys ++ [(ao, oc ca O)])) sz [.ref (ag 0), .int a1, .int a2, .ref ao]) (QMw D (wC ar ag ca P G ++ (ys ++ [(ao, oc ca O)])) (wC ar ag ca P' G ++ (ys ++ [(ao, oc ca (va_up O 0 res.toInt64))])) sz (some (.int 0))) 1 6 (AL (wC ar ag ca P G ++ (ys ++ [(ao, oc ca O)])) sz) := by
  refine met_h (by decide) (Nat.le_of_ble_eq_true rfl) (fun p e s m args below meth c K htab hr0 hZ X hsz ls hl => ?_)
  have K : MC D ca p s m args meth c cL_breaksIn 5 RL := K
  have hx := K.1
  have hb := K.2.1
  have hl : lv_has ls 5 [(0, .ref (ag 0)), (1, .int a1), (2, .int a2), (3, .ref ao)] := hl
  generalize hQ : MQ below _ args s 1 6 _ = Q
  refine lv_aload_n hx hb dL_breaksIn_0 rfl (lv_at hl 3 rfl) ?_
  refine lv_iconst (v := 0) hx hb dL_breaksIn_1 (by decide) ?_
  refine lv_aload_n hx hb dL_breaksIn_2 rfl (lv_at hl 0 rfl) ?_
  refine lv_iload_n hx hb dL_breaksIn_3 rfl (lv_at hl 1 rfl) ?_
  refine lv_iload_n hx hb dL_breaksIn_4 rfl (lv_at hl 2 rfl) ?_
  have kx := m_X7_breaksIn l D ca ar ag z n P G (ys ++ [(ao, oc ca O)]) a1 a2 res P' h0 s.heap.size
  refine z_callVg K hZ X rfl wC_fstx kx hl.1 2 q962 q963 q964 q87 q965 hv_X7_breaksIn ⟨⟨Nat.le_of_ble_eq_true rfl, Nat.le_of_ble_eq_true rfl⟩, rfl, rfl⟩ (z_recvw K X (pl_glb (k := 0) (by decide)) rfl rfl) rfl rfl (Nat.le_of_ble_eq_true rfl) dL_breaksIn_5 ⟨Nat.le_of_ble_eq_true rfl, Nat.le_of_ble_eq_true rfl⟩ rfl (fun H locs X => ?_)
  refine lv_i2l hx hb dL_breaksIn_8 rfl ?_
  refine w_last K X (241 + ys.length) ctor_atw (vp_in_iff.mpr (by decide)) (ctor_set (q' := (ao, oc ca (va_up O 0 res.toInt64)))) dL_breaksIn_9 (fun H locs X => ?_)
  refine lv_goto (tgt := 21) hx hb dL_breaksIn_10 (by decide) ?_
  refine lv_iconst (v := 0) hx hb dL_breaksIn_21 (by decide) ?_
  subst hQ
  refine w_widen (k := 1) (n := 6) (Nat.le_of_ble_eq_true rfl) (Nat.le_of_ble_eq_true rfl) ?_
  exact w_iret K hr0 X xs_fst hsz dL_breaksIn_22
set_option maxRecDepth 100000 in
set_option maxHeartbeats 4000000 in
theorem e1_L_breaksIn (l : Launch) (D : va_G) (ca : Nat → ClassId) (ar : Nat → Nat → Nat) (ag : Nat → Nat) (z : ZG) (hl0 : l.stackTraces = false) (P : RowsS) (G : GlbS) (ys : va_W) (ao : Nat) (O : Nat → Int64) (a1 : Int32) (a2 : Int32) (h0 : t_X7_breaksIn P G a1 a2 = some 1) (sz : Nat) : Met l yL_breaksIn (Cond.codeWith yL_breaksIn cL_breaksIn 5 (some .int) [(0, 10, 13, 18), (0, 10, 17, 13)] :: lw_all) rm_L_breaksIn (PCz z D ca (wC ar ag ca P G ++ (ys ++ [(ao, oc ca O)])) sz [.ref (ag 0), .int a1, .int a2, .ref ao]) (QMw D (wC ar ag ca P G ++ (ys ++ [(ao, oc ca O)])) (wC ar ag ca P G ++ (ys ++ [(ao, oc ca O)])) sz (some (.int 1))) 1 6 (AL (wC ar ag ca P G ++ (ys ++ [(ao, oc ca O)])) sz) := by
  refine met_h (by decide) (Nat.le_of_ble_eq_true rfl) (fun p e s m args below meth c K htab hr0 hZ X hsz ls hl => ?_)
  have K : MC D ca p s m args meth c cL_breaksIn 5 RL := K
  have hx := K.1
  have hb := K.2.1
  have hl : lv_has ls 5 [(0, .ref (ag 0)), (1, .int a1), (2, .int a2), (3, .ref ao)] := hl
  generalize hQ : MQ below _ args s 1 6 _ = Q
  refine lv_aload_n hx hb dL_breaksIn_0 rfl (lv_at hl 3 rfl) ?_
  refine lv_iconst (v := 0) hx hb dL_breaksIn_1 (by decide) ?_
  refine lv_aload_n hx hb dL_breaksIn_2 rfl (lv_at hl 0 rfl) ?_
  refine lv_iload_n hx hb dL_breaksIn_3 rfl (lv_at hl 1 rfl) ?_
  refine lv_iload_n hx hb dL_breaksIn_4 rfl (lv_at hl 2 rfl) ?_
  have kx := x_X7_breaksIn l D ca ar ag z hl0 P G (ys ++ [(ao, oc ca O)]) a1 a2 1 (by decide) h0 s.heap.size
  refine z_xcatchV (E := eN) K hZ X rfl kx hl.1 2 q962 q963 q964 q87 q965 hv_X7_breaksIn ⟨⟨Nat.le_of_ble_eq_true rfl, Nat.le_of_ble_eq_true rfl⟩, rfl, rfl⟩ (z_recvw K X (pl_glb (k := 0) (by decide)) rfl rfl) rfl rfl (Nat.le_of_ble_eq_true rfl) dL_breaksIn_5 ⟨Nat.le_of_ble_eq_true rfl, Nat.le_of_ble_eq_true rfl⟩ [] ⟨0, 10, 13, 18⟩ [⟨0, 10, 17, 13⟩] (htab.trans rfl) (fun _ h => nomatch h) (by decide) (by decide) q819 (List.mem_of_getElem? (i := 0) rfl) (fun q H locs X => ?_)
  refine lv_astore (lv' := [(4, .ref q), (0, .ref (ag 0)), (1, .int a1), (2, .int a2), (3, .ref ao)]) hx hb dL_breaksIn_13 hl (by decide) rfl (fun ls hl => ?_)
  refine lv_iconst (v := 1) hx hb dL_breaksIn_15 (by decide) ?_
  subst hQ
  exact w_iret K hr0 X rfl hsz dL_breaksIn_16
set_option maxRecDepth 100000 in
set_option maxHeartbeats 4000000 in
theorem e2_L_breaksIn (l : Launch) (D : va_G) (ca : Nat → ClassId) (ar : Nat → Nat → Nat) (ag : Nat → Nat) (z : ZG) (hl0 : l.stackTraces = false) (P : RowsS) (G : GlbS) (ys : va_W) (ao : Nat) (O : Nat → Int64) (a1 : Int32) (a2 : Int32) (h0 : t_X7_breaksIn P G a1 a2 = some 2) (sz : Nat) : Met l yL_breaksIn (Cond.codeWith yL_breaksIn cL_breaksIn 5 (some .int) [(0, 10, 13, 18), (0, 10, 17, 13)] :: lw_all) rm_L_breaksIn (PCz z D ca (wC ar ag ca P G ++ (ys ++ [(ao, oc ca O)])) sz [.ref (ag 0), .int a1, .int a2, .ref ao]) (QMw D (wC ar ag ca P G ++ (ys ++ [(ao, oc ca O)])) (wC ar ag ca P G ++ (ys ++ [(ao, oc ca O)])) sz (some (.int 2))) 1 6 (AL (wC ar ag ca P G ++ (ys ++ [(ao, oc ca O)])) sz) := by
  refine met_h (by decide) (Nat.le_of_ble_eq_true rfl) (fun p e s m args below meth c K htab hr0 hZ X hsz ls hl => ?_)
  have K : MC D ca p s m args meth c cL_breaksIn 5 RL := K
  have hx := K.1
  have hb := K.2.1
  have hl : lv_has ls 5 [(0, .ref (ag 0)), (1, .int a1), (2, .int a2), (3, .ref ao)] := hl
  generalize hQ : MQ below _ args s 1 6 _ = Q
  refine lv_aload_n hx hb dL_breaksIn_0 rfl (lv_at hl 3 rfl) ?_
  refine lv_iconst (v := 0) hx hb dL_breaksIn_1 (by decide) ?_
  refine lv_aload_n hx hb dL_breaksIn_2 rfl (lv_at hl 0 rfl) ?_
  refine lv_iload_n hx hb dL_breaksIn_3 rfl (lv_at hl 1 rfl) ?_
  refine lv_iload_n hx hb dL_breaksIn_4 rfl (lv_at hl 2 rfl) ?_
  have kx := x_X7_breaksIn l D ca ar ag z hl0 P G (ys ++ [(ao, oc ca O)]) a1 a2 2 (by decide) h0 s.heap.size
  refine z_xcatchV (E := eI) K hZ X rfl kx hl.1 2 q962 q963 q964 q87 q965 hv_X7_breaksIn ⟨⟨Nat.le_of_ble_eq_true rfl, Nat.le_of_ble_eq_true rfl⟩, rfl, rfl⟩ (z_recvw K X (pl_glb (k := 0) (by decide)) rfl rfl) rfl rfl (Nat.le_of_ble_eq_true rfl) dL_breaksIn_5 ⟨Nat.le_of_ble_eq_true rfl, Nat.le_of_ble_eq_true rfl⟩ [⟨0, 10, 13, 18⟩] ⟨0, 10, 17, 13⟩ [] (htab.trans rfl) (fun q hq => by rw [List.mem_singleton] at hq; subst hq; exact Or.inr ⟨by decide, eN, K.2.2.2.2.1 _ q819, hZ.2.2.2.2.2.2.2.2.2.2.1⟩) (by decide) (by decide) q552 (List.mem_of_getElem? (i := 1) rfl) (fun q H locs X => ?_)
  refine lv_astore (lv' := [(4, .ref q), (0, .ref (ag 0)), (1, .int a1), (2, .int a2), (3, .ref ao)]) hx hb dL_breaksIn_17 hl (by decide) rfl (fun ls hl => ?_)
  refine lv_iconst (v := 2) hx hb dL_breaksIn_19 (by decide) ?_
  subst hQ
  exact w_iret K hr0 X rfl hsz dL_breaksIn_20
-- L_bestSlant
abbrev rm_L_bestSlant : Room := { frames := 8, cells := 1, slots := 6, locals := 190 }
set_option maxRecDepth 100000 in
set_option maxHeartbeats 4000000 in
theorem n_L_bestSlant (l : Launch) (D : va_G) (ca : Nat → ClassId) (ar : Nat → Nat → Nat) (ag : Nat → Nat) (z : ZG) (n : Nat) (P : RowsS) (G : GlbS) (ys : va_W) (ao : Nat) (O : Nat → Int64) (a1 : Int32) (res : Int32) (P' : RowsS) (h0 : f_X7_bestSlant n P G a1 = some (res, P')) (sz : Nat) : Met l yL_bestSlant (Cond.codeWith yL_bestSlant cL_bestSlant 4 (some .int) [(0, 9, 12, 18)] :: lw_all) rm_L_bestSlant (PCz z D ca (wC ar ag ca P G ++ (ys ++ [(ao, oc ca O)])) sz [.ref (ag 0), .int a1, .ref ao]) (QMw D (wC ar ag ca P G ++ (ys ++ [(ao, oc ca O)])) (wC ar ag ca P' G ++ (ys ++ [(ao, oc ca (va_up O 0 res.toInt64))])) sz (some (.int 0))) 1 6 (AL (wC ar ag ca P G ++ (ys ++ [(ao, oc ca O)])) sz) := by
  refine met_h (by decide) (Nat.le_of_ble_eq_true rfl) (fun p e s m args below meth c K htab hr0 hZ X hsz ls hl => ?_)
  have K : MC D ca p s m args meth c cL_bestSlant 4 RL := K
  have hx := K.1
  have hb := K.2.1
  have hl : lv_has ls 4 [(0, .ref (ag 0)), (1, .int a1), (2, .ref ao)] := hl
  generalize hQ : MQ below _ args s 1 6 _ = Q
  refine lv_aload_n hx hb dL_bestSlant_0 rfl (lv_at hl 2 rfl) ?_
  refine lv_iconst (v := 0) hx hb dL_bestSlant_1 (by decide) ?_
  refine lv_aload_n hx hb dL_bestSlant_2 rfl (lv_at hl 0 rfl) ?_
  refine lv_iload_n hx hb dL_bestSlant_3 rfl (lv_at hl 1 rfl) ?_
  have kx := m_X7_bestSlant l D ca ar ag z n P G (ys ++ [(ao, oc ca O)]) a1 res P' h0 s.heap.size
  refine z_callVg K hZ X rfl wC_fstx kx hl.1 1 q969 q970 q971 q87 q972 hv_X7_bestSlant ⟨⟨Nat.le_of_ble_eq_true rfl, Nat.le_of_ble_eq_true rfl⟩, rfl, rfl⟩ (z_recvw K X (pl_glb (k := 0) (by decide)) rfl rfl) rfl rfl (Nat.le_of_ble_eq_true rfl) dL_bestSlant_4 ⟨Nat.le_of_ble_eq_true rfl, Nat.le_of_ble_eq_true rfl⟩ rfl (fun H locs X => ?_)
  refine lv_i2l hx hb dL_bestSlant_7 rfl ?_
  refine w_last K X (241 + ys.length) ctor_atw (vp_in_iff.mpr (by decide)) (ctor_set (q' := (ao, oc ca (va_up O 0 res.toInt64)))) dL_bestSlant_8 (fun H locs X => ?_)
  refine lv_goto (tgt := 15) hx hb dL_bestSlant_9 (by decide) ?_
  refine lv_iconst (v := 0) hx hb dL_bestSlant_15 (by decide) ?_
  subst hQ
  refine w_widen (k := 1) (n := 6) (Nat.le_of_ble_eq_true rfl) (Nat.le_of_ble_eq_true rfl) ?_
  exact w_iret K hr0 X xs_fst hsz dL_bestSlant_16
set_option maxRecDepth 100000 in
set_option maxHeartbeats 4000000 in
theorem e1_L_bestSlant (l : Launch) (D : va_G) (ca : Nat → ClassId) (ar : Nat → Nat → Nat) (ag : Nat → Nat) (z : ZG) (hl0 : l.stackTraces = false) (P : RowsS) (G : GlbS) (ys : va_W) (ao : Nat) (O : Nat → Int64) (a1 : Int32) (h0 : t_X7_bestSlant P G a1 = some 1) (sz : Nat) : Met l yL_bestSlant (Cond.codeWith yL_bestSlant cL_bestSlant 4 (some .int) [(0, 9, 12, 18)] :: lw_all) rm_L_bestSlant (PCz z D ca (wC ar ag ca P G ++ (ys ++ [(ao, oc ca O)])) sz [.ref (ag 0), .int a1, .ref ao]) (QMw D (wC ar ag ca P G ++ (ys ++ [(ao, oc ca O)])) (wC ar ag ca P G ++ (ys ++ [(ao, oc ca O)])) sz (some (.int 1))) 1 6 (AL (wC ar ag ca P G ++ (ys ++ [(ao, oc ca O)])) sz) := by
  refine met_h (by decide) (Nat.le_of_ble_eq_true rfl) (fun p e s m args below meth c K htab hr0 hZ X hsz ls hl => ?_)
  have K : MC D ca p s m args meth c cL_bestSlant 4 RL := K
  have hx := K.1
  have hb := K.2.1
  have hl : lv_has ls 4 [(0, .ref (ag 0)), (1, .int a1), (2, .ref ao)] := hl
  generalize hQ : MQ below _ args s 1 6 _ = Q
  refine lv_aload_n hx hb dL_bestSlant_0 rfl (lv_at hl 2 rfl) ?_
  refine lv_iconst (v := 0) hx hb dL_bestSlant_1 (by decide) ?_
  refine lv_aload_n hx hb dL_bestSlant_2 rfl (lv_at hl 0 rfl) ?_
  refine lv_iload_n hx hb dL_bestSlant_3 rfl (lv_at hl 1 rfl) ?_
  have kx := x_X7_bestSlant l D ca ar ag z hl0 P G (ys ++ [(ao, oc ca O)]) a1 1 (by decide) h0 s.heap.size
  refine z_xcatchV (E := eN) K hZ X rfl kx hl.1 1 q969 q970 q971 q87 q972 hv_X7_bestSlant ⟨⟨Nat.le_of_ble_eq_true rfl, Nat.le_of_ble_eq_true rfl⟩, rfl, rfl⟩ (z_recvw K X (pl_glb (k := 0) (by decide)) rfl rfl) rfl rfl (Nat.le_of_ble_eq_true rfl) dL_bestSlant_4 ⟨Nat.le_of_ble_eq_true rfl, Nat.le_of_ble_eq_true rfl⟩ [] ⟨0, 9, 12, 18⟩ [] (htab.trans rfl) (fun _ h => nomatch h) (by decide) (by decide) q819 (List.mem_of_getElem? (i := 0) rfl) (fun q H locs X => ?_)
  refine lv_astore_n (lv' := [(3, .ref q), (0, .ref (ag 0)), (1, .int a1), (2, .ref ao)]) hx hb dL_bestSlant_12 rfl hl (by decide) rfl (fun ls hl => ?_)
  refine lv_iconst (v := 1) hx hb dL_bestSlant_13 (by decide) ?_
  subst hQ
  exact w_iret K hr0 X rfl hsz dL_bestSlant_14
-- L_lostWith
abbrev rm_L_lostWith : Room := { frames := 8, cells := 1, slots := 6, locals := 187 }
set_option maxRecDepth 100000 in
set_option maxHeartbeats 4000000 in
theorem n_L_lostWith (l : Launch) (D : va_G) (ca : Nat → ClassId) (ar : Nat → Nat → Nat) (ag : Nat → Nat) (z : ZG) (n : Nat) (P : RowsS) (G : GlbS) (ys : va_W) (ao : Nat) (O : Nat → Int64) (a1 : Int32) (res : Int32) (P' : RowsS) (h0 : f_X7_lostWith n P G a1 = some (res, P')) (sz : Nat) : Met l yL_lostWith (Cond.codeWith yL_lostWith cL_lostWith 4 (some .int) [(0, 9, 12, 13)] :: lw_all) rm_L_lostWith (PCz z D ca (wC ar ag ca P G ++ (ys ++ [(ao, oc ca O)])) sz [.ref (ag 0), .int a1, .ref ao]) (QMw D (wC ar ag ca P G ++ (ys ++ [(ao, oc ca O)])) (wC ar ag ca P' G ++ (ys ++ [(ao, oc ca (va_up O 0 res.toInt64))])) sz (some (.int 0))) 1 6 (AL (wC ar ag ca P G ++ (ys ++ [(ao, oc ca O)])) sz) := by
  refine met_h (by decide) (Nat.le_of_ble_eq_true rfl) (fun p e s m args below meth c K htab hr0 hZ X hsz ls hl => ?_)
  have K : MC D ca p s m args meth c cL_lostWith 4 RL := K
  have hx := K.1
  have hb := K.2.1
  have hl : lv_has ls 4 [(0, .ref (ag 0)), (1, .int a1), (2, .ref ao)] := hl
  generalize hQ : MQ below _ args s 1 6 _ = Q
  refine lv_aload_n hx hb dL_lostWith_0 rfl (lv_at hl 2 rfl) ?_
  refine lv_iconst (v := 0) hx hb dL_lostWith_1 (by decide) ?_
  refine lv_aload_n hx hb dL_lostWith_2 rfl (lv_at hl 0 rfl) ?_
  refine lv_iload_n hx hb dL_lostWith_3 rfl (lv_at hl 1 rfl) ?_
  have kx := m_X7_lostWith l D ca ar ag z n P G (ys ++ [(ao, oc ca O)]) a1 res P' h0 s.heap.size
  refine z_callVg K hZ X rfl wC_fstx kx hl.1 1 q976 q977 q978 q87 q979 hv_X7_lostWith ⟨⟨Nat.le_of_ble_eq_true rfl, Nat.le_of_ble_eq_true rfl⟩, rfl, rfl⟩ (z_recvw K X (pl_glb (k := 0) (by decide)) rfl rfl) rfl rfl (Nat.le_of_ble_eq_true rfl) dL_lostWith_4 ⟨Nat.le_of_ble_eq_true rfl, Nat.le_of_ble_eq_true rfl⟩ rfl (fun H locs X => ?_)
  refine lv_i2l hx hb dL_lostWith_7 rfl ?_
  refine w_last K X (241 + ys.length) ctor_atw (vp_in_iff.mpr (by decide)) (ctor_set (q' := (ao, oc ca (va_up O 0 res.toInt64)))) dL_lostWith_8 (fun H locs X => ?_)
  refine lv_goto (tgt := 15) hx hb dL_lostWith_9 (by decide) ?_
  refine lv_iconst (v := 0) hx hb dL_lostWith_15 (by decide) ?_
  subst hQ
  refine w_widen (k := 1) (n := 6) (Nat.le_of_ble_eq_true rfl) (Nat.le_of_ble_eq_true rfl) ?_
  exact w_iret K hr0 X xs_fst hsz dL_lostWith_16
set_option maxRecDepth 100000 in
set_option maxHeartbeats 4000000 in
theorem e2_L_lostWith (l : Launch) (D : va_G) (ca : Nat → ClassId) (ar : Nat → Nat → Nat) (ag : Nat → Nat) (z : ZG) (hl0 : l.stackTraces = false) (P : RowsS) (G : GlbS) (ys : va_W) (ao : Nat) (O : Nat → Int64) (a1 : Int32) (h0 : t_X7_lostWith P G a1 = some 2) (sz : Nat) : Met l yL_lostWith (Cond.codeWith yL_lostWith cL_lostWith 4 (some .int) [(0, 9, 12, 13)] :: lw_all) rm_L_lostWith (PCz z D ca (wC ar ag ca P G ++ (ys ++ [(ao, oc ca O)])) sz [.ref (ag 0), .int a1, .ref ao]) (QMw D (wC ar ag ca P G ++ (ys ++ [(ao, oc ca O)])) (wC ar ag ca P G ++ (ys ++ [(ao, oc ca O)])) sz (some (.int 1))) 1 6 (AL (wC ar ag ca P G ++ (ys ++ [(ao, oc ca O)])) sz) := by
  refine met_h (by decide) (Nat.le_of_ble_eq_true rfl) (fun p e s m args below meth c K htab hr0 hZ X hsz ls hl => ?_)
  have K : MC D ca p s m args meth c cL_lostWith 4 RL := K
  have hx := K.1
  have hb := K.2.1
  have hl : lv_has ls 4 [(0, .ref (ag 0)), (1, .int a1), (2, .ref ao)] := hl
  generalize hQ : MQ below _ args s 1 6 _ = Q
  refine lv_aload_n hx hb dL_lostWith_0 rfl (lv_at hl 2 rfl) ?_
  refine lv_iconst (v := 0) hx hb dL_lostWith_1 (by decide) ?_
  refine lv_aload_n hx hb dL_lostWith_2 rfl (lv_at hl 0 rfl) ?_
  refine lv_iload_n hx hb dL_lostWith_3 rfl (lv_at hl 1 rfl) ?_
  have kx := x_X7_lostWith l D ca ar ag z hl0 P G (ys ++ [(ao, oc ca O)]) a1 2 (by decide) h0 s.heap.size
  refine z_xcatchV (E := eI) K hZ X rfl kx hl.1 1 q976 q977 q978 q87 q979 hv_X7_lostWith ⟨⟨Nat.le_of_ble_eq_true rfl, Nat.le_of_ble_eq_true rfl⟩, rfl, rfl⟩ (z_recvw K X (pl_glb (k := 0) (by decide)) rfl rfl) rfl rfl (Nat.le_of_ble_eq_true rfl) dL_lostWith_4 ⟨Nat.le_of_ble_eq_true rfl, Nat.le_of_ble_eq_true rfl⟩ [] ⟨0, 9, 12, 13⟩ [] (htab.trans rfl) (fun _ h => nomatch h) (by decide) (by decide) q552 (List.mem_of_getElem? (i := 1) rfl) (fun q H locs X => ?_)
  refine lv_astore_n (lv' := [(3, .ref q), (0, .ref (ag 0)), (1, .int a1), (2, .ref ao)]) hx hb dL_lostWith_12 rfl hl (by decide) rfl (fun ls hl => ?_)
  refine lv_iconst (v := 1) hx hb dL_lostWith_13 (by decide) ?_
  subst hQ
  exact w_iret K hr0 X rfl hsz dL_lostWith_14
-- L_setPressure
abbrev rm_L_setPressure : Room := { frames := 8, cells := 1, slots := 6, locals := 188 }
set_option maxRecDepth 100000 in
set_option maxHeartbeats 4000000 in
theorem n_L_setPressure (l : Launch) (D : va_G) (ca : Nat → ClassId) (ar : Nat → Nat → Nat) (ag : Nat → Nat) (z : ZG) (n : Nat) (P : RowsS) (G : GlbS) (ys : va_W) (ao : Nat) (O : Nat → Int64) (a1 : Int32) (a2 : Int32) (res : Int32) (P' : RowsS) (G' : GlbS) (h0 : f_X7_setPressure n P G a1 a2 = some (res, P', G')) (sz : Nat) : Met l yL_setPressure (Cond.codeWith yL_setPressure cL_setPressure 5 (some .int) [(0, 10, 13, 18), (0, 10, 17, 13)] :: lw_all) rm_L_setPressure (PCz z D ca (wC ar ag ca P G ++ (ys ++ [(ao, oc ca O)])) sz [.ref (ag 0), .int a1, .int a2, .ref ao]) (QMw D (wC ar ag ca P G ++ (ys ++ [(ao, oc ca O)])) (wC ar ag ca P' G' ++ (ys ++ [(ao, oc ca (va_up O 0 res.toInt64))])) sz (some (.int 0))) 1 6 (AL (wC ar ag ca P G ++ (ys ++ [(ao, oc ca O)])) sz) := by
  refine met_h (by decide) (Nat.le_of_ble_eq_true rfl) (fun p e s m args below meth c K htab hr0 hZ X hsz ls hl => ?_)
  have K : MC D ca p s m args meth c cL_setPressure 5 RL := K
  have hx := K.1
  have hb := K.2.1
  have hl : lv_has ls 5 [(0, .ref (ag 0)), (1, .int a1), (2, .int a2), (3, .ref ao)] := hl
  generalize hQ : MQ below _ args s 1 6 _ = Q
  refine lv_aload_n hx hb dL_setPressure_0 rfl (lv_at hl 3 rfl) ?_
  refine lv_iconst (v := 0) hx hb dL_setPressure_1 (by decide) ?_
  refine lv_aload_n hx hb dL_setPressure_2 rfl (lv_at hl 0 rfl) ?_
  refine lv_iload_n hx hb dL_setPressure_3 rfl (lv_at hl 1 rfl) ?_
  refine lv_iload_n hx hb dL_setPressure_4 rfl (lv_at hl 2 rfl) ?_
  have kx := m_X7_setPressure l D ca ar ag z n P G (ys ++ [(ao, oc ca O)]) a1 a2 res P' G' h0 s.heap.size
  refine z_callVg K hZ X rfl wC_fstx kx hl.1 2 q983 q984 q985 q87 q986 hv_X7_setPressure ⟨⟨Nat.le_of_ble_eq_true rfl, Nat.le_of_ble_eq_true rfl⟩, rfl, rfl⟩ (z_recvw K X (pl_glb (k := 0) (by decide)) rfl rfl) rfl rfl (Nat.le_of_ble_eq_true rfl) dL_setPressure_5 ⟨Nat.le_of_ble_eq_true rfl, Nat.le_of_ble_eq_true rfl⟩ rfl (fun H locs X => ?_)
  refine lv_i2l hx hb dL_setPressure_8 rfl ?_
  refine w_last K X (241 + ys.length) ctor_atw (vp_in_iff.mpr (by decide)) (ctor_set (q' := (ao, oc ca (va_up O 0 res.toInt64)))) dL_setPressure_9 (fun H locs X => ?_)
  refine lv_goto (tgt := 21) hx hb dL_setPressure_10 (by decide) ?_
  refine lv_iconst (v := 0) hx hb dL_setPressure_21 (by decide) ?_
  subst hQ
  refine w_widen (k := 1) (n := 6) (Nat.le_of_ble_eq_true rfl) (Nat.le_of_ble_eq_true rfl) ?_
  exact w_iret K hr0 X xs_fst hsz dL_setPressure_22
set_option maxRecDepth 100000 in
set_option maxHeartbeats 4000000 in
theorem e1_L_setPressure (l : Launch) (D : va_G) (ca : Nat → ClassId) (ar : Nat → Nat → Nat) (ag : Nat → Nat) (z : ZG) (hl0 : l.stackTraces = false) (P : RowsS) (G : GlbS) (ys : va_W) (ao : Nat) (O : Nat → Int64) (a1 : Int32) (a2 : Int32) (h0 : t_X7_setPressure P G a1 a2 = some 1) (sz : Nat) : Met l yL_setPressure (Cond.codeWith yL_setPressure cL_setPressure 5 (some .int) [(0, 10, 13, 18), (0, 10, 17, 13)] :: lw_all) rm_L_setPressure (PCz z D ca (wC ar ag ca P G ++ (ys ++ [(ao, oc ca O)])) sz [.ref (ag 0), .int a1, .int a2, .ref ao]) (QMw D (wC ar ag ca P G ++ (ys ++ [(ao, oc ca O)])) (wC ar ag ca P G ++ (ys ++ [(ao, oc ca O)])) sz (some (.int 1))) 1 6 (AL (wC ar ag ca P G ++ (ys ++ [(ao, oc ca O)])) sz) := by
  refine met_h (by decide) (Nat.le_of_ble_eq_true rfl) (fun p e s m args below meth c K htab hr0 hZ X hsz ls hl => ?_)
  have K : MC D ca p s m args meth c cL_setPressure 5 RL := K
  have hx := K.1
  have hb := K.2.1
  have hl : lv_has ls 5 [(0, .ref (ag 0)), (1, .int a1), (2, .int a2), (3, .ref ao)] := hl
  generalize hQ : MQ below _ args s 1 6 _ = Q
  refine lv_aload_n hx hb dL_setPressure_0 rfl (lv_at hl 3 rfl) ?_
  refine lv_iconst (v := 0) hx hb dL_setPressure_1 (by decide) ?_
  refine lv_aload_n hx hb dL_setPressure_2 rfl (lv_at hl 0 rfl) ?_
  refine lv_iload_n hx hb dL_setPressure_3 rfl (lv_at hl 1 rfl) ?_
  refine lv_iload_n hx hb dL_setPressure_4 rfl (lv_at hl 2 rfl) ?_
  have kx := x_X7_setPressure l D ca ar ag z hl0 P G (ys ++ [(ao, oc ca O)]) a1 a2 1 (by decide) h0 s.heap.size
  refine z_xcatchV (E := eN) K hZ X rfl kx hl.1 2 q983 q984 q985 q87 q986 hv_X7_setPressure ⟨⟨Nat.le_of_ble_eq_true rfl, Nat.le_of_ble_eq_true rfl⟩, rfl, rfl⟩ (z_recvw K X (pl_glb (k := 0) (by decide)) rfl rfl) rfl rfl (Nat.le_of_ble_eq_true rfl) dL_setPressure_5 ⟨Nat.le_of_ble_eq_true rfl, Nat.le_of_ble_eq_true rfl⟩ [] ⟨0, 10, 13, 18⟩ [⟨0, 10, 17, 13⟩] (htab.trans rfl) (fun _ h => nomatch h) (by decide) (by decide) q819 (List.mem_of_getElem? (i := 0) rfl) (fun q H locs X => ?_)
  refine lv_astore (lv' := [(4, .ref q), (0, .ref (ag 0)), (1, .int a1), (2, .int a2), (3, .ref ao)]) hx hb dL_setPressure_13 hl (by decide) rfl (fun ls hl => ?_)
  refine lv_iconst (v := 1) hx hb dL_setPressure_15 (by decide) ?_
  subst hQ
  exact w_iret K hr0 X rfl hsz dL_setPressure_16
set_option maxRecDepth 100000 in
set_option maxHeartbeats 4000000 in
theorem e2_L_setPressure (l : Launch) (D : va_G) (ca : Nat → ClassId) (ar : Nat → Nat → Nat) (ag : Nat → Nat) (z : ZG) (hl0 : l.stackTraces = false) (P : RowsS) (G : GlbS) (ys : va_W) (ao : Nat) (O : Nat → Int64) (a1 : Int32) (a2 : Int32) (h0 : t_X7_setPressure P G a1 a2 = some 2) (sz : Nat) : Met l yL_setPressure (Cond.codeWith yL_setPressure cL_setPressure 5 (some .int) [(0, 10, 13, 18), (0, 10, 17, 13)] :: lw_all) rm_L_setPressure (PCz z D ca (wC ar ag ca P G ++ (ys ++ [(ao, oc ca O)])) sz [.ref (ag 0), .int a1, .int a2, .ref ao]) (QMw D (wC ar ag ca P G ++ (ys ++ [(ao, oc ca O)])) (wC ar ag ca P G ++ (ys ++ [(ao, oc ca O)])) sz (some (.int 2))) 1 6 (AL (wC ar ag ca P G ++ (ys ++ [(ao, oc ca O)])) sz) := by
  refine met_h (by decide) (Nat.le_of_ble_eq_true rfl) (fun p e s m args below meth c K htab hr0 hZ X hsz ls hl => ?_)
  have K : MC D ca p s m args meth c cL_setPressure 5 RL := K
  have hx := K.1
  have hb := K.2.1
  have hl : lv_has ls 5 [(0, .ref (ag 0)), (1, .int a1), (2, .int a2), (3, .ref ao)] := hl
  generalize hQ : MQ below _ args s 1 6 _ = Q
  refine lv_aload_n hx hb dL_setPressure_0 rfl (lv_at hl 3 rfl) ?_
  refine lv_iconst (v := 0) hx hb dL_setPressure_1 (by decide) ?_
  refine lv_aload_n hx hb dL_setPressure_2 rfl (lv_at hl 0 rfl) ?_
  refine lv_iload_n hx hb dL_setPressure_3 rfl (lv_at hl 1 rfl) ?_
  refine lv_iload_n hx hb dL_setPressure_4 rfl (lv_at hl 2 rfl) ?_
  have kx := x_X7_setPressure l D ca ar ag z hl0 P G (ys ++ [(ao, oc ca O)]) a1 a2 2 (by decide) h0 s.heap.size
  refine z_xcatchV (E := eI) K hZ X rfl kx hl.1 2 q983 q984 q985 q87 q986 hv_X7_setPressure ⟨⟨Nat.le_of_ble_eq_true rfl, Nat.le_of_ble_eq_true rfl⟩, rfl, rfl⟩ (z_recvw K X (pl_glb (k := 0) (by decide)) rfl rfl) rfl rfl (Nat.le_of_ble_eq_true rfl) dL_setPressure_5 ⟨Nat.le_of_ble_eq_true rfl, Nat.le_of_ble_eq_true rfl⟩ [⟨0, 10, 13, 18⟩] ⟨0, 10, 17, 13⟩ [] (htab.trans rfl) (fun q hq => by rw [List.mem_singleton] at hq; subst hq; exact Or.inr ⟨by decide, eN, K.2.2.2.2.1 _ q819, hZ.2.2.2.2.2.2.2.2.2.2.1⟩) (by decide) (by decide) q552 (List.mem_of_getElem? (i := 1) rfl) (fun q H locs X => ?_)
  refine lv_astore (lv' := [(4, .ref q), (0, .ref (ag 0)), (1, .int a1), (2, .int a2), (3, .ref ao)]) hx hb dL_setPressure_17 hl (by decide) rfl (fun ls hl => ?_)
  refine lv_iconst (v := 2) hx hb dL_setPressure_19 (by decide) ?_
  subst hQ
  exact w_iret K hr0 X rfl hsz dL_setPressure_20
-- L_setReference
abbrev rm_L_setReference : Room := { frames := 8, cells := 1, slots := 6, locals := 187 }
set_option maxRecDepth 100000 in
set_option maxHeartbeats 4000000 in
theorem n_L_setReference (l : Launch) (D : va_G) (ca : Nat → ClassId) (ar : Nat → Nat → Nat) (ag : Nat → Nat) (z : ZG) (n : Nat) (P : RowsS) (G : GlbS) (ys : va_W) (ao : Nat) (O : Nat → Int64) (a1 : Int32) (res : Int32) (P' : RowsS) (G' : GlbS) (h0 : f_X7_setReference n P G a1 = some (res, P', G')) (sz : Nat) : Met l yL_setReference (Cond.codeWith yL_setReference cL_setReference 4 (some .int) [(0, 9, 12, 13)] :: lw_all) rm_L_setReference (PCz z D ca (wC ar ag ca P G ++ (ys ++ [(ao, oc ca O)])) sz [.ref (ag 0), .int a1, .ref ao]) (QMw D (wC ar ag ca P G ++ (ys ++ [(ao, oc ca O)])) (wC ar ag ca P' G' ++ (ys ++ [(ao, oc ca (va_up O 0 res.toInt64))])) sz (some (.int 0))) 1 6 (AL (wC ar ag ca P G ++ (ys ++ [(ao, oc ca O)])) sz) := by
  refine met_h (by decide) (Nat.le_of_ble_eq_true rfl) (fun p e s m args below meth c K htab hr0 hZ X hsz ls hl => ?_)
  have K : MC D ca p s m args meth c cL_setReference 4 RL := K
  have hx := K.1
  have hb := K.2.1
  have hl : lv_has ls 4 [(0, .ref (ag 0)), (1, .int a1), (2, .ref ao)] := hl
  generalize hQ : MQ below _ args s 1 6 _ = Q
  refine lv_aload_n hx hb dL_setReference_0 rfl (lv_at hl 2 rfl) ?_
  refine lv_iconst (v := 0) hx hb dL_setReference_1 (by decide) ?_
  refine lv_aload_n hx hb dL_setReference_2 rfl (lv_at hl 0 rfl) ?_
  refine lv_iload_n hx hb dL_setReference_3 rfl (lv_at hl 1 rfl) ?_
  have kx := m_X7_setReference l D ca ar ag z n P G (ys ++ [(ao, oc ca O)]) a1 res P' G' h0 s.heap.size
  refine z_callVg K hZ X rfl wC_fstx kx hl.1 1 q994 q995 q996 q87 q997 hv_X7_setReference ⟨⟨Nat.le_of_ble_eq_true rfl, Nat.le_of_ble_eq_true rfl⟩, rfl, rfl⟩ (z_recvw K X (pl_glb (k := 0) (by decide)) rfl rfl) rfl rfl (Nat.le_of_ble_eq_true rfl) dL_setReference_4 ⟨Nat.le_of_ble_eq_true rfl, Nat.le_of_ble_eq_true rfl⟩ rfl (fun H locs X => ?_)
  refine lv_i2l hx hb dL_setReference_7 rfl ?_
  refine w_last K X (241 + ys.length) ctor_atw (vp_in_iff.mpr (by decide)) (ctor_set (q' := (ao, oc ca (va_up O 0 res.toInt64)))) dL_setReference_8 (fun H locs X => ?_)
  refine lv_goto (tgt := 15) hx hb dL_setReference_9 (by decide) ?_
  refine lv_iconst (v := 0) hx hb dL_setReference_15 (by decide) ?_
  subst hQ
  refine w_widen (k := 1) (n := 6) (Nat.le_of_ble_eq_true rfl) (Nat.le_of_ble_eq_true rfl) ?_
  exact w_iret K hr0 X xs_fst hsz dL_setReference_16
set_option maxRecDepth 100000 in
set_option maxHeartbeats 4000000 in
theorem e2_L_setReference (l : Launch) (D : va_G) (ca : Nat → ClassId) (ar : Nat → Nat → Nat) (ag : Nat → Nat) (z : ZG) (hl0 : l.stackTraces = false) (P : RowsS) (G : GlbS) (ys : va_W) (ao : Nat) (O : Nat → Int64) (a1 : Int32) (h0 : t_X7_setReference P G a1 = some 2) (sz : Nat) : Met l yL_setReference (Cond.codeWith yL_setReference cL_setReference 4 (some .int) [(0, 9, 12, 13)] :: lw_all) rm_L_setReference (PCz z D ca (wC ar ag ca P G ++ (ys ++ [(ao, oc ca O)])) sz [.ref (ag 0), .int a1, .ref ao]) (QMw D (wC ar ag ca P G ++ (ys ++ [(ao, oc ca O)])) (wC ar ag ca P G ++ (ys ++ [(ao, oc ca O)])) sz (some (.int 1))) 1 6 (AL (wC ar ag ca P G ++ (ys ++ [(ao, oc ca O)])) sz) := by
  refine met_h (by decide) (Nat.le_of_ble_eq_true rfl) (fun p e s m args below meth c K htab hr0 hZ X hsz ls hl => ?_)
  have K : MC D ca p s m args meth c cL_setReference 4 RL := K
  have hx := K.1
  have hb := K.2.1
  have hl : lv_has ls 4 [(0, .ref (ag 0)), (1, .int a1), (2, .ref ao)] := hl
  generalize hQ : MQ below _ args s 1 6 _ = Q
  refine lv_aload_n hx hb dL_setReference_0 rfl (lv_at hl 2 rfl) ?_
  refine lv_iconst (v := 0) hx hb dL_setReference_1 (by decide) ?_
  refine lv_aload_n hx hb dL_setReference_2 rfl (lv_at hl 0 rfl) ?_
  refine lv_iload_n hx hb dL_setReference_3 rfl (lv_at hl 1 rfl) ?_
  have kx := x_X7_setReference l D ca ar ag z hl0 P G (ys ++ [(ao, oc ca O)]) a1 2 (by decide) h0 s.heap.size
  refine z_xcatchV (E := eI) K hZ X rfl kx hl.1 1 q994 q995 q996 q87 q997 hv_X7_setReference ⟨⟨Nat.le_of_ble_eq_true rfl, Nat.le_of_ble_eq_true rfl⟩, rfl, rfl⟩ (z_recvw K X (pl_glb (k := 0) (by decide)) rfl rfl) rfl rfl (Nat.le_of_ble_eq_true rfl) dL_setReference_4 ⟨Nat.le_of_ble_eq_true rfl, Nat.le_of_ble_eq_true rfl⟩ [] ⟨0, 9, 12, 13⟩ [] (htab.trans rfl) (fun _ h => nomatch h) (by decide) (by decide) q552 (List.mem_of_getElem? (i := 1) rfl) (fun q H locs X => ?_)
  refine lv_astore_n (lv' := [(3, .ref q), (0, .ref (ag 0)), (1, .int a1), (2, .ref ao)]) hx hb dL_setReference_12 rfl hl (by decide) rfl (fun ls hl => ?_)
  refine lv_iconst (v := 1) hx hb dL_setReference_13 (by decide) ?_
  subst hQ
  exact w_iret K hr0 X rfl hsz dL_setReference_14
-- L_sweep
abbrev rm_L_sweep : Room := { frames := 8, cells := 1, slots := 6, locals := 192 }
set_option maxRecDepth 100000 in
set_option maxHeartbeats 4000000 in
theorem n_L_sweep (l : Launch) (D : va_G) (ca : Nat → ClassId) (ar : Nat → Nat → Nat) (ag : Nat → Nat) (z : ZG) (n : Nat) (P : RowsS) (G : GlbS) (ys : va_W) (ao : Nat) (O : Nat → Int64) (a1 : Int32) (a2 : Int32) (a3 : Int32) (res : Int32) (P' : RowsS) (G' : GlbS) (h0 : f_X7_sweep n P G a1 a2 a3 = some (res, P', G')) (sz : Nat) : Met l yL_sweep (Cond.codeWith yL_sweep cL_sweep 6 (some .int) [(0, 12, 15, 18), (0, 12, 19, 13)] :: lw_all) rm_L_sweep (PCz z D ca (wC ar ag ca P G ++ (ys ++ [(ao, oc ca O)])) sz [.ref (ag 0), .int a1, .int a2, .int a3, .ref ao]) (QMw D (wC ar ag ca P G ++ (ys ++ [(ao, oc ca O)])) (wC ar ag ca P' G' ++ (ys ++ [(ao, oc ca (va_up O 0 res.toInt64))])) sz (some (.int 0))) 1 6 (AL (wC ar ag ca P G ++ (ys ++ [(ao, oc ca O)])) sz) := by
  refine met_h (by decide) (Nat.le_of_ble_eq_true rfl) (fun p e s m args below meth c K htab hr0 hZ X hsz ls hl => ?_)
  have K : MC D ca p s m args meth c cL_sweep 6 RL := K
  have hx := K.1
  have hb := K.2.1
  have hl : lv_has ls 6 [(0, .ref (ag 0)), (1, .int a1), (2, .int a2), (3, .int a3), (4, .ref ao)] := hl
  generalize hQ : MQ below _ args s 1 6 _ = Q
  refine lv_aload hx hb dL_sweep_0 (lv_at hl 4 rfl) ?_
  refine lv_iconst (v := 0) hx hb dL_sweep_2 (by decide) ?_
  refine lv_aload_n hx hb dL_sweep_3 rfl (lv_at hl 0 rfl) ?_
  refine lv_iload_n hx hb dL_sweep_4 rfl (lv_at hl 1 rfl) ?_
  refine lv_iload_n hx hb dL_sweep_5 rfl (lv_at hl 2 rfl) ?_
  refine lv_iload_n hx hb dL_sweep_6 rfl (lv_at hl 3 rfl) ?_
  have kx := m_X7_sweep l D ca ar ag z n P G (ys ++ [(ao, oc ca O)]) a1 a2 a3 res P' G' h0 s.heap.size
  refine z_callVg K hZ X rfl wC_fstx kx hl.1 3 q1001 q1002 q1003 q87 q1004 hv_X7_sweep ⟨⟨Nat.le_of_ble_eq_true rfl, Nat.le_of_ble_eq_true rfl⟩, rfl, rfl⟩ (z_recvw K X (pl_glb (k := 0) (by decide)) rfl rfl) rfl rfl (Nat.le_of_ble_eq_true rfl) dL_sweep_7 ⟨Nat.le_of_ble_eq_true rfl, Nat.le_of_ble_eq_true rfl⟩ rfl (fun H locs X => ?_)
  refine lv_i2l hx hb dL_sweep_10 rfl ?_
  refine w_last K X (241 + ys.length) ctor_atw (vp_in_iff.mpr (by decide)) (ctor_set (q' := (ao, oc ca (va_up O 0 res.toInt64)))) dL_sweep_11 (fun H locs X => ?_)
  refine lv_goto (tgt := 23) hx hb dL_sweep_12 (by decide) ?_
  refine lv_iconst (v := 0) hx hb dL_sweep_23 (by decide) ?_
  subst hQ
  refine w_widen (k := 1) (n := 6) (Nat.le_of_ble_eq_true rfl) (Nat.le_of_ble_eq_true rfl) ?_
  exact w_iret K hr0 X xs_fst hsz dL_sweep_24
set_option maxRecDepth 100000 in
set_option maxHeartbeats 4000000 in
theorem e1_L_sweep (l : Launch) (D : va_G) (ca : Nat → ClassId) (ar : Nat → Nat → Nat) (ag : Nat → Nat) (z : ZG) (hl0 : l.stackTraces = false) (P : RowsS) (G : GlbS) (ys : va_W) (ao : Nat) (O : Nat → Int64) (a1 : Int32) (a2 : Int32) (a3 : Int32) (h0 : t_X7_sweep P G a1 a2 a3 = some 1) (sz : Nat) : Met l yL_sweep (Cond.codeWith yL_sweep cL_sweep 6 (some .int) [(0, 12, 15, 18), (0, 12, 19, 13)] :: lw_all) rm_L_sweep (PCz z D ca (wC ar ag ca P G ++ (ys ++ [(ao, oc ca O)])) sz [.ref (ag 0), .int a1, .int a2, .int a3, .ref ao]) (QMw D (wC ar ag ca P G ++ (ys ++ [(ao, oc ca O)])) (wC ar ag ca P G ++ (ys ++ [(ao, oc ca O)])) sz (some (.int 1))) 1 6 (AL (wC ar ag ca P G ++ (ys ++ [(ao, oc ca O)])) sz) := by
  refine met_h (by decide) (Nat.le_of_ble_eq_true rfl) (fun p e s m args below meth c K htab hr0 hZ X hsz ls hl => ?_)
  have K : MC D ca p s m args meth c cL_sweep 6 RL := K
  have hx := K.1
  have hb := K.2.1
  have hl : lv_has ls 6 [(0, .ref (ag 0)), (1, .int a1), (2, .int a2), (3, .int a3), (4, .ref ao)] := hl
  generalize hQ : MQ below _ args s 1 6 _ = Q
  refine lv_aload hx hb dL_sweep_0 (lv_at hl 4 rfl) ?_
  refine lv_iconst (v := 0) hx hb dL_sweep_2 (by decide) ?_
  refine lv_aload_n hx hb dL_sweep_3 rfl (lv_at hl 0 rfl) ?_
  refine lv_iload_n hx hb dL_sweep_4 rfl (lv_at hl 1 rfl) ?_
  refine lv_iload_n hx hb dL_sweep_5 rfl (lv_at hl 2 rfl) ?_
  refine lv_iload_n hx hb dL_sweep_6 rfl (lv_at hl 3 rfl) ?_
  have kx := x_X7_sweep l D ca ar ag z hl0 P G (ys ++ [(ao, oc ca O)]) a1 a2 a3 1 (by decide) h0 s.heap.size
  refine z_xcatchV (E := eN) K hZ X rfl kx hl.1 3 q1001 q1002 q1003 q87 q1004 hv_X7_sweep ⟨⟨Nat.le_of_ble_eq_true rfl, Nat.le_of_ble_eq_true rfl⟩, rfl, rfl⟩ (z_recvw K X (pl_glb (k := 0) (by decide)) rfl rfl) rfl rfl (Nat.le_of_ble_eq_true rfl) dL_sweep_7 ⟨Nat.le_of_ble_eq_true rfl, Nat.le_of_ble_eq_true rfl⟩ [] ⟨0, 12, 15, 18⟩ [⟨0, 12, 19, 13⟩] (htab.trans rfl) (fun _ h => nomatch h) (by decide) (by decide) q819 (List.mem_of_getElem? (i := 0) rfl) (fun q H locs X => ?_)
  refine lv_astore (lv' := [(5, .ref q), (0, .ref (ag 0)), (1, .int a1), (2, .int a2), (3, .int a3), (4, .ref ao)]) hx hb dL_sweep_15 hl (by decide) rfl (fun ls hl => ?_)
  refine lv_iconst (v := 1) hx hb dL_sweep_17 (by decide) ?_
  subst hQ
  exact w_iret K hr0 X rfl hsz dL_sweep_18
set_option maxRecDepth 100000 in
set_option maxHeartbeats 4000000 in
theorem e2_L_sweep (l : Launch) (D : va_G) (ca : Nat → ClassId) (ar : Nat → Nat → Nat) (ag : Nat → Nat) (z : ZG) (hl0 : l.stackTraces = false) (P : RowsS) (G : GlbS) (ys : va_W) (ao : Nat) (O : Nat → Int64) (a1 : Int32) (a2 : Int32) (a3 : Int32) (h0 : t_X7_sweep P G a1 a2 a3 = some 2) (sz : Nat) : Met l yL_sweep (Cond.codeWith yL_sweep cL_sweep 6 (some .int) [(0, 12, 15, 18), (0, 12, 19, 13)] :: lw_all) rm_L_sweep (PCz z D ca (wC ar ag ca P G ++ (ys ++ [(ao, oc ca O)])) sz [.ref (ag 0), .int a1, .int a2, .int a3, .ref ao]) (QMw D (wC ar ag ca P G ++ (ys ++ [(ao, oc ca O)])) (wC ar ag ca P G ++ (ys ++ [(ao, oc ca O)])) sz (some (.int 2))) 1 6 (AL (wC ar ag ca P G ++ (ys ++ [(ao, oc ca O)])) sz) := by
  refine met_h (by decide) (Nat.le_of_ble_eq_true rfl) (fun p e s m args below meth c K htab hr0 hZ X hsz ls hl => ?_)
  have K : MC D ca p s m args meth c cL_sweep 6 RL := K
  have hx := K.1
  have hb := K.2.1
  have hl : lv_has ls 6 [(0, .ref (ag 0)), (1, .int a1), (2, .int a2), (3, .int a3), (4, .ref ao)] := hl
  generalize hQ : MQ below _ args s 1 6 _ = Q
  refine lv_aload hx hb dL_sweep_0 (lv_at hl 4 rfl) ?_
  refine lv_iconst (v := 0) hx hb dL_sweep_2 (by decide) ?_
  refine lv_aload_n hx hb dL_sweep_3 rfl (lv_at hl 0 rfl) ?_
  refine lv_iload_n hx hb dL_sweep_4 rfl (lv_at hl 1 rfl) ?_
  refine lv_iload_n hx hb dL_sweep_5 rfl (lv_at hl 2 rfl) ?_
  refine lv_iload_n hx hb dL_sweep_6 rfl (lv_at hl 3 rfl) ?_
  have kx := x_X7_sweep l D ca ar ag z hl0 P G (ys ++ [(ao, oc ca O)]) a1 a2 a3 2 (by decide) h0 s.heap.size
  refine z_xcatchV (E := eI) K hZ X rfl kx hl.1 3 q1001 q1002 q1003 q87 q1004 hv_X7_sweep ⟨⟨Nat.le_of_ble_eq_true rfl, Nat.le_of_ble_eq_true rfl⟩, rfl, rfl⟩ (z_recvw K X (pl_glb (k := 0) (by decide)) rfl rfl) rfl rfl (Nat.le_of_ble_eq_true rfl) dL_sweep_7 ⟨Nat.le_of_ble_eq_true rfl, Nat.le_of_ble_eq_true rfl⟩ [⟨0, 12, 15, 18⟩] ⟨0, 12, 19, 13⟩ [] (htab.trans rfl) (fun q hq => by rw [List.mem_singleton] at hq; subst hq; exact Or.inr ⟨by decide, eN, K.2.2.2.2.1 _ q819, hZ.2.2.2.2.2.2.2.2.2.2.1⟩) (by decide) (by decide) q552 (List.mem_of_getElem? (i := 1) rfl) (fun q H locs X => ?_)
  refine lv_astore (lv' := [(5, .ref q), (0, .ref (ag 0)), (1, .int a1), (2, .int a2), (3, .int a3), (4, .ref ao)]) hx hb dL_sweep_19 hl (by decide) rfl (fun ls hl => ?_)
  refine lv_iconst (v := 2) hx hb dL_sweep_21 (by decide) ?_
  subst hQ
  exact w_iret K hr0 X rfl hsz dL_sweep_22
-- L_setSlant
abbrev rm_L_setSlant : Room := { frames := 8, cells := 1, slots := 6, locals := 188 }
set_option maxRecDepth 100000 in
set_option maxHeartbeats 4000000 in
theorem n_L_setSlant (l : Launch) (D : va_G) (ca : Nat → ClassId) (ar : Nat → Nat → Nat) (ag : Nat → Nat) (z : ZG) (n : Nat) (P : RowsS) (G : GlbS) (ys : va_W) (ao : Nat) (O : Nat → Int64) (a1 : Int32) (a2 : Int32) (res : Int32) (P' : RowsS) (G' : GlbS) (h0 : f_X7_setSlant n P G a1 a2 = some (res, P', G')) (sz : Nat) : Met l yL_setSlant (Cond.codeWith yL_setSlant cL_setSlant 5 (some .int) [(0, 10, 13, 18), (0, 10, 17, 13)] :: lw_all) rm_L_setSlant (PCz z D ca (wC ar ag ca P G ++ (ys ++ [(ao, oc ca O)])) sz [.ref (ag 0), .int a1, .int a2, .ref ao]) (QMw D (wC ar ag ca P G ++ (ys ++ [(ao, oc ca O)])) (wC ar ag ca P' G' ++ (ys ++ [(ao, oc ca (va_up O 0 res.toInt64))])) sz (some (.int 0))) 1 6 (AL (wC ar ag ca P G ++ (ys ++ [(ao, oc ca O)])) sz) := by
  refine met_h (by decide) (Nat.le_of_ble_eq_true rfl) (fun p e s m args below meth c K htab hr0 hZ X hsz ls hl => ?_)
  have K : MC D ca p s m args meth c cL_setSlant 5 RL := K
  have hx := K.1
  have hb := K.2.1
  have hl : lv_has ls 5 [(0, .ref (ag 0)), (1, .int a1), (2, .int a2), (3, .ref ao)] := hl
  generalize hQ : MQ below _ args s 1 6 _ = Q
  refine lv_aload_n hx hb dL_setSlant_0 rfl (lv_at hl 3 rfl) ?_
  refine lv_iconst (v := 0) hx hb dL_setSlant_1 (by decide) ?_
  refine lv_aload_n hx hb dL_setSlant_2 rfl (lv_at hl 0 rfl) ?_
  refine lv_iload_n hx hb dL_setSlant_3 rfl (lv_at hl 1 rfl) ?_
  refine lv_iload_n hx hb dL_setSlant_4 rfl (lv_at hl 2 rfl) ?_
  have kx := m_X7_setSlant l D ca ar ag z n P G (ys ++ [(ao, oc ca O)]) a1 a2 res P' G' h0 s.heap.size
  refine z_callVg K hZ X rfl wC_fstx kx hl.1 2 q1008 q1009 q1010 q87 q1011 hv_X7_setSlant ⟨⟨Nat.le_of_ble_eq_true rfl, Nat.le_of_ble_eq_true rfl⟩, rfl, rfl⟩ (z_recvw K X (pl_glb (k := 0) (by decide)) rfl rfl) rfl rfl (Nat.le_of_ble_eq_true rfl) dL_setSlant_5 ⟨Nat.le_of_ble_eq_true rfl, Nat.le_of_ble_eq_true rfl⟩ rfl (fun H locs X => ?_)
  refine lv_i2l hx hb dL_setSlant_8 rfl ?_
  refine w_last K X (241 + ys.length) ctor_atw (vp_in_iff.mpr (by decide)) (ctor_set (q' := (ao, oc ca (va_up O 0 res.toInt64)))) dL_setSlant_9 (fun H locs X => ?_)
  refine lv_goto (tgt := 21) hx hb dL_setSlant_10 (by decide) ?_
  refine lv_iconst (v := 0) hx hb dL_setSlant_21 (by decide) ?_
  subst hQ
  refine w_widen (k := 1) (n := 6) (Nat.le_of_ble_eq_true rfl) (Nat.le_of_ble_eq_true rfl) ?_
  exact w_iret K hr0 X xs_fst hsz dL_setSlant_22
set_option maxRecDepth 100000 in
set_option maxHeartbeats 4000000 in
theorem e1_L_setSlant (l : Launch) (D : va_G) (ca : Nat → ClassId) (ar : Nat → Nat → Nat) (ag : Nat → Nat) (z : ZG) (hl0 : l.stackTraces = false) (P : RowsS) (G : GlbS) (ys : va_W) (ao : Nat) (O : Nat → Int64) (a1 : Int32) (a2 : Int32) (h0 : t_X7_setSlant P G a1 a2 = some 1) (sz : Nat) : Met l yL_setSlant (Cond.codeWith yL_setSlant cL_setSlant 5 (some .int) [(0, 10, 13, 18), (0, 10, 17, 13)] :: lw_all) rm_L_setSlant (PCz z D ca (wC ar ag ca P G ++ (ys ++ [(ao, oc ca O)])) sz [.ref (ag 0), .int a1, .int a2, .ref ao]) (QMw D (wC ar ag ca P G ++ (ys ++ [(ao, oc ca O)])) (wC ar ag ca P G ++ (ys ++ [(ao, oc ca O)])) sz (some (.int 1))) 1 6 (AL (wC ar ag ca P G ++ (ys ++ [(ao, oc ca O)])) sz) := by
  refine met_h (by decide) (Nat.le_of_ble_eq_true rfl) (fun p e s m args below meth c K htab hr0 hZ X hsz ls hl => ?_)
  have K : MC D ca p s m args meth c cL_setSlant 5 RL := K
  have hx := K.1
  have hb := K.2.1
  have hl : lv_has ls 5 [(0, .ref (ag 0)), (1, .int a1), (2, .int a2), (3, .ref ao)] := hl
  generalize hQ : MQ below _ args s 1 6 _ = Q
  refine lv_aload_n hx hb dL_setSlant_0 rfl (lv_at hl 3 rfl) ?_
  refine lv_iconst (v := 0) hx hb dL_setSlant_1 (by decide) ?_
  refine lv_aload_n hx hb dL_setSlant_2 rfl (lv_at hl 0 rfl) ?_
  refine lv_iload_n hx hb dL_setSlant_3 rfl (lv_at hl 1 rfl) ?_
  refine lv_iload_n hx hb dL_setSlant_4 rfl (lv_at hl 2 rfl) ?_
  have kx := x_X7_setSlant l D ca ar ag z hl0 P G (ys ++ [(ao, oc ca O)]) a1 a2 1 (by decide) h0 s.heap.size
  refine z_xcatchV (E := eN) K hZ X rfl kx hl.1 2 q1008 q1009 q1010 q87 q1011 hv_X7_setSlant ⟨⟨Nat.le_of_ble_eq_true rfl, Nat.le_of_ble_eq_true rfl⟩, rfl, rfl⟩ (z_recvw K X (pl_glb (k := 0) (by decide)) rfl rfl) rfl rfl (Nat.le_of_ble_eq_true rfl) dL_setSlant_5 ⟨Nat.le_of_ble_eq_true rfl, Nat.le_of_ble_eq_true rfl⟩ [] ⟨0, 10, 13, 18⟩ [⟨0, 10, 17, 13⟩] (htab.trans rfl) (fun _ h => nomatch h) (by decide) (by decide) q819 (List.mem_of_getElem? (i := 0) rfl) (fun q H locs X => ?_)
  refine lv_astore (lv' := [(4, .ref q), (0, .ref (ag 0)), (1, .int a1), (2, .int a2), (3, .ref ao)]) hx hb dL_setSlant_13 hl (by decide) rfl (fun ls hl => ?_)
  refine lv_iconst (v := 1) hx hb dL_setSlant_15 (by decide) ?_
  subst hQ
  exact w_iret K hr0 X rfl hsz dL_setSlant_16
set_option maxRecDepth 100000 in
set_option maxHeartbeats 4000000 in
theorem e2_L_setSlant (l : Launch) (D : va_G) (ca : Nat → ClassId) (ar : Nat → Nat → Nat) (ag : Nat → Nat) (z : ZG) (hl0 : l.stackTraces = false) (P : RowsS) (G : GlbS) (ys : va_W) (ao : Nat) (O : Nat → Int64) (a1 : Int32) (a2 : Int32) (h0 : t_X7_setSlant P G a1 a2 = some 2) (sz : Nat) : Met l yL_setSlant (Cond.codeWith yL_setSlant cL_setSlant 5 (some .int) [(0, 10, 13, 18), (0, 10, 17, 13)] :: lw_all) rm_L_setSlant (PCz z D ca (wC ar ag ca P G ++ (ys ++ [(ao, oc ca O)])) sz [.ref (ag 0), .int a1, .int a2, .ref ao]) (QMw D (wC ar ag ca P G ++ (ys ++ [(ao, oc ca O)])) (wC ar ag ca P G ++ (ys ++ [(ao, oc ca O)])) sz (some (.int 2))) 1 6 (AL (wC ar ag ca P G ++ (ys ++ [(ao, oc ca O)])) sz) := by
  refine met_h (by decide) (Nat.le_of_ble_eq_true rfl) (fun p e s m args below meth c K htab hr0 hZ X hsz ls hl => ?_)
  have K : MC D ca p s m args meth c cL_setSlant 5 RL := K
  have hx := K.1
  have hb := K.2.1
  have hl : lv_has ls 5 [(0, .ref (ag 0)), (1, .int a1), (2, .int a2), (3, .ref ao)] := hl
  generalize hQ : MQ below _ args s 1 6 _ = Q
  refine lv_aload_n hx hb dL_setSlant_0 rfl (lv_at hl 3 rfl) ?_
  refine lv_iconst (v := 0) hx hb dL_setSlant_1 (by decide) ?_
  refine lv_aload_n hx hb dL_setSlant_2 rfl (lv_at hl 0 rfl) ?_
  refine lv_iload_n hx hb dL_setSlant_3 rfl (lv_at hl 1 rfl) ?_
  refine lv_iload_n hx hb dL_setSlant_4 rfl (lv_at hl 2 rfl) ?_
  have kx := x_X7_setSlant l D ca ar ag z hl0 P G (ys ++ [(ao, oc ca O)]) a1 a2 2 (by decide) h0 s.heap.size
  refine z_xcatchV (E := eI) K hZ X rfl kx hl.1 2 q1008 q1009 q1010 q87 q1011 hv_X7_setSlant ⟨⟨Nat.le_of_ble_eq_true rfl, Nat.le_of_ble_eq_true rfl⟩, rfl, rfl⟩ (z_recvw K X (pl_glb (k := 0) (by decide)) rfl rfl) rfl rfl (Nat.le_of_ble_eq_true rfl) dL_setSlant_5 ⟨Nat.le_of_ble_eq_true rfl, Nat.le_of_ble_eq_true rfl⟩ [⟨0, 10, 13, 18⟩] ⟨0, 10, 17, 13⟩ [] (htab.trans rfl) (fun q hq => by rw [List.mem_singleton] at hq; subst hq; exact Or.inr ⟨by decide, eN, K.2.2.2.2.1 _ q819, hZ.2.2.2.2.2.2.2.2.2.2.1⟩) (by decide) (by decide) q552 (List.mem_of_getElem? (i := 1) rfl) (fun q H locs X => ?_)
  refine lv_astore (lv' := [(4, .ref q), (0, .ref (ag 0)), (1, .int a1), (2, .int a2), (3, .ref ao)]) hx hb dL_setSlant_17 hl (by decide) rfl (fun ls hl => ?_)
  refine lv_iconst (v := 2) hx hb dL_setSlant_19 (by decide) ?_
  subst hQ
  exact w_iret K hr0 X rfl hsz dL_setSlant_20
-- L_setMark
abbrev rm_L_setMark : Room := { frames := 8, cells := 1, slots := 6, locals := 127 }
set_option maxRecDepth 100000 in
set_option maxHeartbeats 4000000 in
theorem n_L_setMark (l : Launch) (D : va_G) (ca : Nat → ClassId) (ar : Nat → Nat → Nat) (ag : Nat → Nat) (z : ZG) (n : Nat) (P : RowsS) (G : GlbS) (ys : va_W) (ao : Nat) (O : Nat → Int64) (a1 : Int32) (res : Int32) (P' : RowsS) (G' : GlbS) (h0 : f_X7_setMark n P G a1 = some (res, P', G')) (sz : Nat) : Met l yL_setMark (Cond.codeWith yL_setMark cL_setMark 4 (some .int) [(0, 9, 12, 18)] :: lw_all) rm_L_setMark (PCz z D ca (wC ar ag ca P G ++ (ys ++ [(ao, oc ca O)])) sz [.ref (ag 0), .int a1, .ref ao]) (QMw D (wC ar ag ca P G ++ (ys ++ [(ao, oc ca O)])) (wC ar ag ca P' G' ++ (ys ++ [(ao, oc ca (va_up O 0 res.toInt64))])) sz (some (.int 0))) 1 6 (AL (wC ar ag ca P G ++ (ys ++ [(ao, oc ca O)])) sz) := by
  refine met_h (by decide) (Nat.le_of_ble_eq_true rfl) (fun p e s m args below meth c K htab hr0 hZ X hsz ls hl => ?_)
  have K : MC D ca p s m args meth c cL_setMark 4 RL := K
  have hx := K.1
  have hb := K.2.1
  have hl : lv_has ls 4 [(0, .ref (ag 0)), (1, .int a1), (2, .ref ao)] := hl
  generalize hQ : MQ below _ args s 1 6 _ = Q
  refine lv_aload_n hx hb dL_setMark_0 rfl (lv_at hl 2 rfl) ?_
  refine lv_iconst (v := 0) hx hb dL_setMark_1 (by decide) ?_
  refine lv_aload_n hx hb dL_setMark_2 rfl (lv_at hl 0 rfl) ?_
  refine lv_iload_n hx hb dL_setMark_3 rfl (lv_at hl 1 rfl) ?_
  have kx := m_X7_setMark l D ca ar ag z n P G (ys ++ [(ao, oc ca O)]) a1 res P' G' h0 s.heap.size
  refine z_callVg K hZ X rfl wC_fstx kx hl.1 1 q1015 q1016 q1017 q87 q1018 hv_X7_setMark ⟨⟨Nat.le_of_ble_eq_true rfl, Nat.le_of_ble_eq_true rfl⟩, rfl, rfl⟩ (z_recvw K X (pl_glb (k := 0) (by decide)) rfl rfl) rfl rfl (Nat.le_of_ble_eq_true rfl) dL_setMark_4 ⟨Nat.le_of_ble_eq_true rfl, Nat.le_of_ble_eq_true rfl⟩ rfl (fun H locs X => ?_)
  refine lv_i2l hx hb dL_setMark_7 rfl ?_
  refine w_last K X (241 + ys.length) ctor_atw (vp_in_iff.mpr (by decide)) (ctor_set (q' := (ao, oc ca (va_up O 0 res.toInt64)))) dL_setMark_8 (fun H locs X => ?_)
  refine lv_goto (tgt := 15) hx hb dL_setMark_9 (by decide) ?_
  refine lv_iconst (v := 0) hx hb dL_setMark_15 (by decide) ?_
  subst hQ
  refine w_widen (k := 1) (n := 6) (Nat.le_of_ble_eq_true rfl) (Nat.le_of_ble_eq_true rfl) ?_
  exact w_iret K hr0 X xs_fst hsz dL_setMark_16
set_option maxRecDepth 100000 in
set_option maxHeartbeats 4000000 in
theorem e1_L_setMark (l : Launch) (D : va_G) (ca : Nat → ClassId) (ar : Nat → Nat → Nat) (ag : Nat → Nat) (z : ZG) (hl0 : l.stackTraces = false) (P : RowsS) (G : GlbS) (ys : va_W) (ao : Nat) (O : Nat → Int64) (a1 : Int32) (h0 : t_X7_setMark P G a1 = some 1) (sz : Nat) : Met l yL_setMark (Cond.codeWith yL_setMark cL_setMark 4 (some .int) [(0, 9, 12, 18)] :: lw_all) rm_L_setMark (PCz z D ca (wC ar ag ca P G ++ (ys ++ [(ao, oc ca O)])) sz [.ref (ag 0), .int a1, .ref ao]) (QMw D (wC ar ag ca P G ++ (ys ++ [(ao, oc ca O)])) (wC ar ag ca P G ++ (ys ++ [(ao, oc ca O)])) sz (some (.int 1))) 1 6 (AL (wC ar ag ca P G ++ (ys ++ [(ao, oc ca O)])) sz) := by
  refine met_h (by decide) (Nat.le_of_ble_eq_true rfl) (fun p e s m args below meth c K htab hr0 hZ X hsz ls hl => ?_)
  have K : MC D ca p s m args meth c cL_setMark 4 RL := K
  have hx := K.1
  have hb := K.2.1
  have hl : lv_has ls 4 [(0, .ref (ag 0)), (1, .int a1), (2, .ref ao)] := hl
  generalize hQ : MQ below _ args s 1 6 _ = Q
  refine lv_aload_n hx hb dL_setMark_0 rfl (lv_at hl 2 rfl) ?_
  refine lv_iconst (v := 0) hx hb dL_setMark_1 (by decide) ?_
  refine lv_aload_n hx hb dL_setMark_2 rfl (lv_at hl 0 rfl) ?_
  refine lv_iload_n hx hb dL_setMark_3 rfl (lv_at hl 1 rfl) ?_
  have kx := x_X7_setMark l D ca ar ag z hl0 P G (ys ++ [(ao, oc ca O)]) a1 1 (by decide) h0 s.heap.size
  refine z_xcatchV (E := eN) K hZ X rfl kx hl.1 1 q1015 q1016 q1017 q87 q1018 hv_X7_setMark ⟨⟨Nat.le_of_ble_eq_true rfl, Nat.le_of_ble_eq_true rfl⟩, rfl, rfl⟩ (z_recvw K X (pl_glb (k := 0) (by decide)) rfl rfl) rfl rfl (Nat.le_of_ble_eq_true rfl) dL_setMark_4 ⟨Nat.le_of_ble_eq_true rfl, Nat.le_of_ble_eq_true rfl⟩ [] ⟨0, 9, 12, 18⟩ [] (htab.trans rfl) (fun _ h => nomatch h) (by decide) (by decide) q819 (List.mem_of_getElem? (i := 0) rfl) (fun q H locs X => ?_)
  refine lv_astore_n (lv' := [(3, .ref q), (0, .ref (ag 0)), (1, .int a1), (2, .ref ao)]) hx hb dL_setMark_12 rfl hl (by decide) rfl (fun ls hl => ?_)
  refine lv_iconst (v := 1) hx hb dL_setMark_13 (by decide) ?_
  subst hQ
  exact w_iret K hr0 X rfl hsz dL_setMark_14
-- L_setCurve
abbrev rm_L_setCurve : Room := { frames := 8, cells := 1, slots := 6, locals := 188 }
set_option maxRecDepth 100000 in
set_option maxHeartbeats 4000000 in
theorem n_L_setCurve (l : Launch) (D : va_G) (ca : Nat → ClassId) (ar : Nat → Nat → Nat) (ag : Nat → Nat) (z : ZG) (n : Nat) (P : RowsS) (G : GlbS) (ys : va_W) (ao : Nat) (O : Nat → Int64) (a1 : Int32) (a2 : Int32) (res : Int32) (P' : RowsS) (G' : GlbS) (h0 : f_X7_setCurve n P G a1 a2 = some (res, P', G')) (sz : Nat) : Met l yL_setCurve (Cond.codeWith yL_setCurve cL_setCurve 5 (some .int) [(0, 10, 13, 18), (0, 10, 17, 13)] :: lw_all) rm_L_setCurve (PCz z D ca (wC ar ag ca P G ++ (ys ++ [(ao, oc ca O)])) sz [.ref (ag 0), .int a1, .int a2, .ref ao]) (QMw D (wC ar ag ca P G ++ (ys ++ [(ao, oc ca O)])) (wC ar ag ca P' G' ++ (ys ++ [(ao, oc ca (va_up O 0 res.toInt64))])) sz (some (.int 0))) 1 6 (AL (wC ar ag ca P G ++ (ys ++ [(ao, oc ca O)])) sz) := by
  refine met_h (by decide) (Nat.le_of_ble_eq_true rfl) (fun p e s m args below meth c K htab hr0 hZ X hsz ls hl => ?_)
  have K : MC D ca p s m args meth c cL_setCurve 5 RL := K
  have hx := K.1
  have hb := K.2.1
  have hl : lv_has ls 5 [(0, .ref (ag 0)), (1, .int a1), (2, .int a2), (3, .ref ao)] := hl
  generalize hQ : MQ below _ args s 1 6 _ = Q
  refine lv_aload_n hx hb dL_setCurve_0 rfl (lv_at hl 3 rfl) ?_
  refine lv_iconst (v := 0) hx hb dL_setCurve_1 (by decide) ?_
  refine lv_aload_n hx hb dL_setCurve_2 rfl (lv_at hl 0 rfl) ?_
  refine lv_iload_n hx hb dL_setCurve_3 rfl (lv_at hl 1 rfl) ?_
  refine lv_iload_n hx hb dL_setCurve_4 rfl (lv_at hl 2 rfl) ?_
  have kx := m_X7_setCurve l D ca ar ag z n P G (ys ++ [(ao, oc ca O)]) a1 a2 res P' G' h0 s.heap.size
  refine z_callVg K hZ X rfl wC_fstx kx hl.1 2 q1023 q1024 q1025 q87 q1026 hv_X7_setCurve ⟨⟨Nat.le_of_ble_eq_true rfl, Nat.le_of_ble_eq_true rfl⟩, rfl, rfl⟩ (z_recvw K X (pl_glb (k := 0) (by decide)) rfl rfl) rfl rfl (Nat.le_of_ble_eq_true rfl) dL_setCurve_5 ⟨Nat.le_of_ble_eq_true rfl, Nat.le_of_ble_eq_true rfl⟩ rfl (fun H locs X => ?_)
  refine lv_i2l hx hb dL_setCurve_8 rfl ?_
  refine w_last K X (241 + ys.length) ctor_atw (vp_in_iff.mpr (by decide)) (ctor_set (q' := (ao, oc ca (va_up O 0 res.toInt64)))) dL_setCurve_9 (fun H locs X => ?_)
  refine lv_goto (tgt := 21) hx hb dL_setCurve_10 (by decide) ?_
  refine lv_iconst (v := 0) hx hb dL_setCurve_21 (by decide) ?_
  subst hQ
  refine w_widen (k := 1) (n := 6) (Nat.le_of_ble_eq_true rfl) (Nat.le_of_ble_eq_true rfl) ?_
  exact w_iret K hr0 X xs_fst hsz dL_setCurve_22
set_option maxRecDepth 100000 in
set_option maxHeartbeats 4000000 in
theorem e1_L_setCurve (l : Launch) (D : va_G) (ca : Nat → ClassId) (ar : Nat → Nat → Nat) (ag : Nat → Nat) (z : ZG) (hl0 : l.stackTraces = false) (P : RowsS) (G : GlbS) (ys : va_W) (ao : Nat) (O : Nat → Int64) (a1 : Int32) (a2 : Int32) (h0 : t_X7_setCurve P G a1 a2 = some 1) (sz : Nat) : Met l yL_setCurve (Cond.codeWith yL_setCurve cL_setCurve 5 (some .int) [(0, 10, 13, 18), (0, 10, 17, 13)] :: lw_all) rm_L_setCurve (PCz z D ca (wC ar ag ca P G ++ (ys ++ [(ao, oc ca O)])) sz [.ref (ag 0), .int a1, .int a2, .ref ao]) (QMw D (wC ar ag ca P G ++ (ys ++ [(ao, oc ca O)])) (wC ar ag ca P G ++ (ys ++ [(ao, oc ca O)])) sz (some (.int 1))) 1 6 (AL (wC ar ag ca P G ++ (ys ++ [(ao, oc ca O)])) sz) := by
  refine met_h (by decide) (Nat.le_of_ble_eq_true rfl) (fun p e s m args below meth c K htab hr0 hZ X hsz ls hl => ?_)
  have K : MC D ca p s m args meth c cL_setCurve 5 RL := K
  have hx := K.1
  have hb := K.2.1
  have hl : lv_has ls 5 [(0, .ref (ag 0)), (1, .int a1), (2, .int a2), (3, .ref ao)] := hl
  generalize hQ : MQ below _ args s 1 6 _ = Q
  refine lv_aload_n hx hb dL_setCurve_0 rfl (lv_at hl 3 rfl) ?_
  refine lv_iconst (v := 0) hx hb dL_setCurve_1 (by decide) ?_
  refine lv_aload_n hx hb dL_setCurve_2 rfl (lv_at hl 0 rfl) ?_
  refine lv_iload_n hx hb dL_setCurve_3 rfl (lv_at hl 1 rfl) ?_
  refine lv_iload_n hx hb dL_setCurve_4 rfl (lv_at hl 2 rfl) ?_
  have kx := x_X7_setCurve l D ca ar ag z hl0 P G (ys ++ [(ao, oc ca O)]) a1 a2 1 (by decide) h0 s.heap.size
  refine z_xcatchV (E := eN) K hZ X rfl kx hl.1 2 q1023 q1024 q1025 q87 q1026 hv_X7_setCurve ⟨⟨Nat.le_of_ble_eq_true rfl, Nat.le_of_ble_eq_true rfl⟩, rfl, rfl⟩ (z_recvw K X (pl_glb (k := 0) (by decide)) rfl rfl) rfl rfl (Nat.le_of_ble_eq_true rfl) dL_setCurve_5 ⟨Nat.le_of_ble_eq_true rfl, Nat.le_of_ble_eq_true rfl⟩ [] ⟨0, 10, 13, 18⟩ [⟨0, 10, 17, 13⟩] (htab.trans rfl) (fun _ h => nomatch h) (by decide) (by decide) q819 (List.mem_of_getElem? (i := 0) rfl) (fun q H locs X => ?_)
  refine lv_astore (lv' := [(4, .ref q), (0, .ref (ag 0)), (1, .int a1), (2, .int a2), (3, .ref ao)]) hx hb dL_setCurve_13 hl (by decide) rfl (fun ls hl => ?_)
  refine lv_iconst (v := 1) hx hb dL_setCurve_15 (by decide) ?_
  subst hQ
  exact w_iret K hr0 X rfl hsz dL_setCurve_16
set_option maxRecDepth 100000 in
set_option maxHeartbeats 4000000 in
theorem e2_L_setCurve (l : Launch) (D : va_G) (ca : Nat → ClassId) (ar : Nat → Nat → Nat) (ag : Nat → Nat) (z : ZG) (hl0 : l.stackTraces = false) (P : RowsS) (G : GlbS) (ys : va_W) (ao : Nat) (O : Nat → Int64) (a1 : Int32) (a2 : Int32) (h0 : t_X7_setCurve P G a1 a2 = some 2) (sz : Nat) : Met l yL_setCurve (Cond.codeWith yL_setCurve cL_setCurve 5 (some .int) [(0, 10, 13, 18), (0, 10, 17, 13)] :: lw_all) rm_L_setCurve (PCz z D ca (wC ar ag ca P G ++ (ys ++ [(ao, oc ca O)])) sz [.ref (ag 0), .int a1, .int a2, .ref ao]) (QMw D (wC ar ag ca P G ++ (ys ++ [(ao, oc ca O)])) (wC ar ag ca P G ++ (ys ++ [(ao, oc ca O)])) sz (some (.int 2))) 1 6 (AL (wC ar ag ca P G ++ (ys ++ [(ao, oc ca O)])) sz) := by
  refine met_h (by decide) (Nat.le_of_ble_eq_true rfl) (fun p e s m args below meth c K htab hr0 hZ X hsz ls hl => ?_)
  have K : MC D ca p s m args meth c cL_setCurve 5 RL := K
  have hx := K.1
  have hb := K.2.1
  have hl : lv_has ls 5 [(0, .ref (ag 0)), (1, .int a1), (2, .int a2), (3, .ref ao)] := hl
  generalize hQ : MQ below _ args s 1 6 _ = Q
  refine lv_aload_n hx hb dL_setCurve_0 rfl (lv_at hl 3 rfl) ?_
  refine lv_iconst (v := 0) hx hb dL_setCurve_1 (by decide) ?_
  refine lv_aload_n hx hb dL_setCurve_2 rfl (lv_at hl 0 rfl) ?_
  refine lv_iload_n hx hb dL_setCurve_3 rfl (lv_at hl 1 rfl) ?_
  refine lv_iload_n hx hb dL_setCurve_4 rfl (lv_at hl 2 rfl) ?_
  have kx := x_X7_setCurve l D ca ar ag z hl0 P G (ys ++ [(ao, oc ca O)]) a1 a2 2 (by decide) h0 s.heap.size
  refine z_xcatchV (E := eI) K hZ X rfl kx hl.1 2 q1023 q1024 q1025 q87 q1026 hv_X7_setCurve ⟨⟨Nat.le_of_ble_eq_true rfl, Nat.le_of_ble_eq_true rfl⟩, rfl, rfl⟩ (z_recvw K X (pl_glb (k := 0) (by decide)) rfl rfl) rfl rfl (Nat.le_of_ble_eq_true rfl) dL_setCurve_5 ⟨Nat.le_of_ble_eq_true rfl, Nat.le_of_ble_eq_true rfl⟩ [⟨0, 10, 13, 18⟩] ⟨0, 10, 17, 13⟩ [] (htab.trans rfl) (fun q hq => by rw [List.mem_singleton] at hq; subst hq; exact Or.inr ⟨by decide, eN, K.2.2.2.2.1 _ q819, hZ.2.2.2.2.2.2.2.2.2.2.1⟩) (by decide) (by decide) q552 (List.mem_of_getElem? (i := 1) rfl) (fun q H locs X => ?_)
  refine lv_astore (lv' := [(4, .ref q), (0, .ref (ag 0)), (1, .int a1), (2, .int a2), (3, .ref ao)]) hx hb dL_setCurve_17 hl (by decide) rfl (fun ls hl => ?_)
  refine lv_iconst (v := 2) hx hb dL_setCurve_19 (by decide) ?_
  subst hQ
  exact w_iret K hr0 X rfl hsz dL_setCurve_20
-- L_mend
abbrev rm_L_mend : Room := { frames := 8, cells := 1, slots := 6, locals := 188 }
set_option maxRecDepth 100000 in
set_option maxHeartbeats 4000000 in
theorem n_L_mend (l : Launch) (D : va_G) (ca : Nat → ClassId) (ar : Nat → Nat → Nat) (ag : Nat → Nat) (z : ZG) (n : Nat) (P : RowsS) (G : GlbS) (ys : va_W) (ao : Nat) (O : Nat → Int64) (a1 : Int32) (res : Int32) (P' : RowsS) (G' : GlbS) (h0 : f_X7_mend n P G a1 = some (res, P', G')) (sz : Nat) : Met l yL_mend (Cond.codeWith yL_mend cL_mend 4 (some .int) [(0, 9, 12, 18)] :: lw_all) rm_L_mend (PCz z D ca (wC ar ag ca P G ++ (ys ++ [(ao, oc ca O)])) sz [.ref (ag 0), .int a1, .ref ao]) (QMw D (wC ar ag ca P G ++ (ys ++ [(ao, oc ca O)])) (wC ar ag ca P' G' ++ (ys ++ [(ao, oc ca (va_up O 0 res.toInt64))])) sz (some (.int 0))) 1 6 (AL (wC ar ag ca P G ++ (ys ++ [(ao, oc ca O)])) sz) := by
  refine met_h (by decide) (Nat.le_of_ble_eq_true rfl) (fun p e s m args below meth c K htab hr0 hZ X hsz ls hl => ?_)
  have K : MC D ca p s m args meth c cL_mend 4 RL := K
  have hx := K.1
  have hb := K.2.1
  have hl : lv_has ls 4 [(0, .ref (ag 0)), (1, .int a1), (2, .ref ao)] := hl
  generalize hQ : MQ below _ args s 1 6 _ = Q
  refine lv_aload_n hx hb dL_mend_0 rfl (lv_at hl 2 rfl) ?_
  refine lv_iconst (v := 0) hx hb dL_mend_1 (by decide) ?_
  refine lv_aload_n hx hb dL_mend_2 rfl (lv_at hl 0 rfl) ?_
  refine lv_iload_n hx hb dL_mend_3 rfl (lv_at hl 1 rfl) ?_
  have kx := m_X7_mend l D ca ar ag z n P G (ys ++ [(ao, oc ca O)]) a1 res P' G' h0 s.heap.size
  refine z_callVg K hZ X rfl wC_fstx kx hl.1 1 q1030 q1031 q1032 q87 q1033 hv_X7_mend ⟨⟨Nat.le_of_ble_eq_true rfl, Nat.le_of_ble_eq_true rfl⟩, rfl, rfl⟩ (z_recvw K X (pl_glb (k := 0) (by decide)) rfl rfl) rfl rfl (Nat.le_of_ble_eq_true rfl) dL_mend_4 ⟨Nat.le_of_ble_eq_true rfl, Nat.le_of_ble_eq_true rfl⟩ rfl (fun H locs X => ?_)
  refine lv_i2l hx hb dL_mend_7 rfl ?_
  refine w_last K X (241 + ys.length) ctor_atw (vp_in_iff.mpr (by decide)) (ctor_set (q' := (ao, oc ca (va_up O 0 res.toInt64)))) dL_mend_8 (fun H locs X => ?_)
  refine lv_goto (tgt := 15) hx hb dL_mend_9 (by decide) ?_
  refine lv_iconst (v := 0) hx hb dL_mend_15 (by decide) ?_
  subst hQ
  refine w_widen (k := 1) (n := 6) (Nat.le_of_ble_eq_true rfl) (Nat.le_of_ble_eq_true rfl) ?_
  exact w_iret K hr0 X xs_fst hsz dL_mend_16
set_option maxRecDepth 100000 in
set_option maxHeartbeats 4000000 in
theorem e1_L_mend (l : Launch) (D : va_G) (ca : Nat → ClassId) (ar : Nat → Nat → Nat) (ag : Nat → Nat) (z : ZG) (hl0 : l.stackTraces = false) (P : RowsS) (G : GlbS) (ys : va_W) (ao : Nat) (O : Nat → Int64) (a1 : Int32) (h0 : t_X7_mend P G a1 = some 1) (sz : Nat) : Met l yL_mend (Cond.codeWith yL_mend cL_mend 4 (some .int) [(0, 9, 12, 18)] :: lw_all) rm_L_mend (PCz z D ca (wC ar ag ca P G ++ (ys ++ [(ao, oc ca O)])) sz [.ref (ag 0), .int a1, .ref ao]) (QMw D (wC ar ag ca P G ++ (ys ++ [(ao, oc ca O)])) (wC ar ag ca P G ++ (ys ++ [(ao, oc ca O)])) sz (some (.int 1))) 1 6 (AL (wC ar ag ca P G ++ (ys ++ [(ao, oc ca O)])) sz) := by
  refine met_h (by decide) (Nat.le_of_ble_eq_true rfl) (fun p e s m args below meth c K htab hr0 hZ X hsz ls hl => ?_)
  have K : MC D ca p s m args meth c cL_mend 4 RL := K
  have hx := K.1
  have hb := K.2.1
  have hl : lv_has ls 4 [(0, .ref (ag 0)), (1, .int a1), (2, .ref ao)] := hl
  generalize hQ : MQ below _ args s 1 6 _ = Q
  refine lv_aload_n hx hb dL_mend_0 rfl (lv_at hl 2 rfl) ?_
  refine lv_iconst (v := 0) hx hb dL_mend_1 (by decide) ?_
  refine lv_aload_n hx hb dL_mend_2 rfl (lv_at hl 0 rfl) ?_
  refine lv_iload_n hx hb dL_mend_3 rfl (lv_at hl 1 rfl) ?_
  have kx := x_X7_mend l D ca ar ag z hl0 P G (ys ++ [(ao, oc ca O)]) a1 1 (by decide) h0 s.heap.size
  refine z_xcatchV (E := eN) K hZ X rfl kx hl.1 1 q1030 q1031 q1032 q87 q1033 hv_X7_mend ⟨⟨Nat.le_of_ble_eq_true rfl, Nat.le_of_ble_eq_true rfl⟩, rfl, rfl⟩ (z_recvw K X (pl_glb (k := 0) (by decide)) rfl rfl) rfl rfl (Nat.le_of_ble_eq_true rfl) dL_mend_4 ⟨Nat.le_of_ble_eq_true rfl, Nat.le_of_ble_eq_true rfl⟩ [] ⟨0, 9, 12, 18⟩ [] (htab.trans rfl) (fun _ h => nomatch h) (by decide) (by decide) q819 (List.mem_of_getElem? (i := 0) rfl) (fun q H locs X => ?_)
  refine lv_astore_n (lv' := [(3, .ref q), (0, .ref (ag 0)), (1, .int a1), (2, .ref ao)]) hx hb dL_mend_12 rfl hl (by decide) rfl (fun ls hl => ?_)
  refine lv_iconst (v := 1) hx hb dL_mend_13 (by decide) ?_
  subst hQ
  exact w_iret K hr0 X rfl hsz dL_mend_14
-- L_refill
abbrev rm_L_refill : Room := { frames := 8, cells := 1, slots := 6, locals := 189 }
set_option maxRecDepth 100000 in
set_option maxHeartbeats 4000000 in
theorem n_L_refill (l : Launch) (D : va_G) (ca : Nat → ClassId) (ar : Nat → Nat → Nat) (ag : Nat → Nat) (z : ZG) (n : Nat) (P : RowsS) (G : GlbS) (ys : va_W) (ao : Nat) (O : Nat → Int64) (a1 : Int32) (a2 : Int32) (res : Int32) (P' : RowsS) (G' : GlbS) (h0 : f_X7_refill n P G a1 a2 = some (res, P', G')) (sz : Nat) : Met l yL_refill (Cond.codeWith yL_refill cL_refill 5 (some .int) [(0, 10, 13, 18), (0, 10, 17, 13)] :: lw_all) rm_L_refill (PCz z D ca (wC ar ag ca P G ++ (ys ++ [(ao, oc ca O)])) sz [.ref (ag 0), .int a1, .int a2, .ref ao]) (QMw D (wC ar ag ca P G ++ (ys ++ [(ao, oc ca O)])) (wC ar ag ca P' G' ++ (ys ++ [(ao, oc ca (va_up O 0 res.toInt64))])) sz (some (.int 0))) 1 6 (AL (wC ar ag ca P G ++ (ys ++ [(ao, oc ca O)])) sz) := by
  refine met_h (by decide) (Nat.le_of_ble_eq_true rfl) (fun p e s m args below meth c K htab hr0 hZ X hsz ls hl => ?_)
  have K : MC D ca p s m args meth c cL_refill 5 RL := K
  have hx := K.1
  have hb := K.2.1
  have hl : lv_has ls 5 [(0, .ref (ag 0)), (1, .int a1), (2, .int a2), (3, .ref ao)] := hl
  generalize hQ : MQ below _ args s 1 6 _ = Q
  refine lv_aload_n hx hb dL_refill_0 rfl (lv_at hl 3 rfl) ?_
  refine lv_iconst (v := 0) hx hb dL_refill_1 (by decide) ?_
  refine lv_aload_n hx hb dL_refill_2 rfl (lv_at hl 0 rfl) ?_
  refine lv_iload_n hx hb dL_refill_3 rfl (lv_at hl 1 rfl) ?_
  refine lv_iload_n hx hb dL_refill_4 rfl (lv_at hl 2 rfl) ?_
  have kx := m_X7_refill l D ca ar ag z n P G (ys ++ [(ao, oc ca O)]) a1 a2 res P' G' h0 s.heap.size
  refine z_callVg K hZ X rfl wC_fstx kx hl.1 2 q1037 q1038 q1039 q87 q1040 hv_X7_refill ⟨⟨Nat.le_of_ble_eq_true rfl, Nat.le_of_ble_eq_true rfl⟩, rfl, rfl⟩ (z_recvw K X (pl_glb (k := 0) (by decide)) rfl rfl) rfl rfl (Nat.le_of_ble_eq_true rfl) dL_refill_5 ⟨Nat.le_of_ble_eq_true rfl, Nat.le_of_ble_eq_true rfl⟩ rfl (fun H locs X => ?_)
  refine lv_i2l hx hb dL_refill_8 rfl ?_
  refine w_last K X (241 + ys.length) ctor_atw (vp_in_iff.mpr (by decide)) (ctor_set (q' := (ao, oc ca (va_up O 0 res.toInt64)))) dL_refill_9 (fun H locs X => ?_)
  refine lv_goto (tgt := 21) hx hb dL_refill_10 (by decide) ?_
  refine lv_iconst (v := 0) hx hb dL_refill_21 (by decide) ?_
  subst hQ
  refine w_widen (k := 1) (n := 6) (Nat.le_of_ble_eq_true rfl) (Nat.le_of_ble_eq_true rfl) ?_
  exact w_iret K hr0 X xs_fst hsz dL_refill_22
set_option maxRecDepth 100000 in
set_option maxHeartbeats 4000000 in
theorem e1_L_refill (l : Launch) (D : va_G) (ca : Nat → ClassId) (ar : Nat → Nat → Nat) (ag : Nat → Nat) (z : ZG) (hl0 : l.stackTraces = false) (P : RowsS) (G : GlbS) (ys : va_W) (ao : Nat) (O : Nat → Int64) (a1 : Int32) (a2 : Int32) (h0 : t_X7_refill P G a1 a2 = some 1) (sz : Nat) : Met l yL_refill (Cond.codeWith yL_refill cL_refill 5 (some .int) [(0, 10, 13, 18), (0, 10, 17, 13)] :: lw_all) rm_L_refill (PCz z D ca (wC ar ag ca P G ++ (ys ++ [(ao, oc ca O)])) sz [.ref (ag 0), .int a1, .int a2, .ref ao]) (QMw D (wC ar ag ca P G ++ (ys ++ [(ao, oc ca O)])) (wC ar ag ca P G ++ (ys ++ [(ao, oc ca O)])) sz (some (.int 1))) 1 6 (AL (wC ar ag ca P G ++ (ys ++ [(ao, oc ca O)])) sz) := by
  refine met_h (by decide) (Nat.le_of_ble_eq_true rfl) (fun p e s m args below meth c K htab hr0 hZ X hsz ls hl => ?_)
  have K : MC D ca p s m args meth c cL_refill 5 RL := K
  have hx := K.1
  have hb := K.2.1
  have hl : lv_has ls 5 [(0, .ref (ag 0)), (1, .int a1), (2, .int a2), (3, .ref ao)] := hl
  generalize hQ : MQ below _ args s 1 6 _ = Q
  refine lv_aload_n hx hb dL_refill_0 rfl (lv_at hl 3 rfl) ?_
  refine lv_iconst (v := 0) hx hb dL_refill_1 (by decide) ?_
  refine lv_aload_n hx hb dL_refill_2 rfl (lv_at hl 0 rfl) ?_
  refine lv_iload_n hx hb dL_refill_3 rfl (lv_at hl 1 rfl) ?_
  refine lv_iload_n hx hb dL_refill_4 rfl (lv_at hl 2 rfl) ?_
  have kx := x_X7_refill l D ca ar ag z hl0 P G (ys ++ [(ao, oc ca O)]) a1 a2 1 (by decide) h0 s.heap.size
  refine z_xcatchV (E := eN) K hZ X rfl kx hl.1 2 q1037 q1038 q1039 q87 q1040 hv_X7_refill ⟨⟨Nat.le_of_ble_eq_true rfl, Nat.le_of_ble_eq_true rfl⟩, rfl, rfl⟩ (z_recvw K X (pl_glb (k := 0) (by decide)) rfl rfl) rfl rfl (Nat.le_of_ble_eq_true rfl) dL_refill_5 ⟨Nat.le_of_ble_eq_true rfl, Nat.le_of_ble_eq_true rfl⟩ [] ⟨0, 10, 13, 18⟩ [⟨0, 10, 17, 13⟩] (htab.trans rfl) (fun _ h => nomatch h) (by decide) (by decide) q819 (List.mem_of_getElem? (i := 0) rfl) (fun q H locs X => ?_)
  refine lv_astore (lv' := [(4, .ref q), (0, .ref (ag 0)), (1, .int a1), (2, .int a2), (3, .ref ao)]) hx hb dL_refill_13 hl (by decide) rfl (fun ls hl => ?_)
  refine lv_iconst (v := 1) hx hb dL_refill_15 (by decide) ?_
  subst hQ
  exact w_iret K hr0 X rfl hsz dL_refill_16
set_option maxRecDepth 100000 in
set_option maxHeartbeats 4000000 in
theorem e2_L_refill (l : Launch) (D : va_G) (ca : Nat → ClassId) (ar : Nat → Nat → Nat) (ag : Nat → Nat) (z : ZG) (hl0 : l.stackTraces = false) (P : RowsS) (G : GlbS) (ys : va_W) (ao : Nat) (O : Nat → Int64) (a1 : Int32) (a2 : Int32) (h0 : t_X7_refill P G a1 a2 = some 2) (sz : Nat) : Met l yL_refill (Cond.codeWith yL_refill cL_refill 5 (some .int) [(0, 10, 13, 18), (0, 10, 17, 13)] :: lw_all) rm_L_refill (PCz z D ca (wC ar ag ca P G ++ (ys ++ [(ao, oc ca O)])) sz [.ref (ag 0), .int a1, .int a2, .ref ao]) (QMw D (wC ar ag ca P G ++ (ys ++ [(ao, oc ca O)])) (wC ar ag ca P G ++ (ys ++ [(ao, oc ca O)])) sz (some (.int 2))) 1 6 (AL (wC ar ag ca P G ++ (ys ++ [(ao, oc ca O)])) sz) := by
  refine met_h (by decide) (Nat.le_of_ble_eq_true rfl) (fun p e s m args below meth c K htab hr0 hZ X hsz ls hl => ?_)
  have K : MC D ca p s m args meth c cL_refill 5 RL := K
  have hx := K.1
  have hb := K.2.1
  have hl : lv_has ls 5 [(0, .ref (ag 0)), (1, .int a1), (2, .int a2), (3, .ref ao)] := hl
  generalize hQ : MQ below _ args s 1 6 _ = Q
  refine lv_aload_n hx hb dL_refill_0 rfl (lv_at hl 3 rfl) ?_
  refine lv_iconst (v := 0) hx hb dL_refill_1 (by decide) ?_
  refine lv_aload_n hx hb dL_refill_2 rfl (lv_at hl 0 rfl) ?_
  refine lv_iload_n hx hb dL_refill_3 rfl (lv_at hl 1 rfl) ?_
  refine lv_iload_n hx hb dL_refill_4 rfl (lv_at hl 2 rfl) ?_
  have kx := x_X7_refill l D ca ar ag z hl0 P G (ys ++ [(ao, oc ca O)]) a1 a2 2 (by decide) h0 s.heap.size
  refine z_xcatchV (E := eI) K hZ X rfl kx hl.1 2 q1037 q1038 q1039 q87 q1040 hv_X7_refill ⟨⟨Nat.le_of_ble_eq_true rfl, Nat.le_of_ble_eq_true rfl⟩, rfl, rfl⟩ (z_recvw K X (pl_glb (k := 0) (by decide)) rfl rfl) rfl rfl (Nat.le_of_ble_eq_true rfl) dL_refill_5 ⟨Nat.le_of_ble_eq_true rfl, Nat.le_of_ble_eq_true rfl⟩ [⟨0, 10, 13, 18⟩] ⟨0, 10, 17, 13⟩ [] (htab.trans rfl) (fun q hq => by rw [List.mem_singleton] at hq; subst hq; exact Or.inr ⟨by decide, eN, K.2.2.2.2.1 _ q819, hZ.2.2.2.2.2.2.2.2.2.2.1⟩) (by decide) (by decide) q552 (List.mem_of_getElem? (i := 1) rfl) (fun q H locs X => ?_)
  refine lv_astore (lv' := [(4, .ref q), (0, .ref (ag 0)), (1, .int a1), (2, .int a2), (3, .ref ao)]) hx hb dL_refill_17 hl (by decide) rfl (fun ls hl => ?_)
  refine lv_iconst (v := 2) hx hb dL_refill_19 (by decide) ?_
  subst hQ
  exact w_iret K hr0 X rfl hsz dL_refill_20
-- L_addTube
abbrev rm_L_addTube : Room := { frames := 8, cells := 1, slots := 6, locals := 192 }
set_option maxRecDepth 100000 in
set_option maxHeartbeats 4000000 in
theorem n_L_addTube (l : Launch) (D : va_G) (ca : Nat → ClassId) (ar : Nat → Nat → Nat) (ag : Nat → Nat) (z : ZG) (n : Nat) (P : RowsS) (G : GlbS) (ys : va_W) (ao : Nat) (O : Nat → Int64) (a1 : Int32) (a2 : Int32) (a3 : Int32) (a4 : Int32) (a5 : Int32) (res : Int32) (P' : RowsS) (G' : GlbS) (h0 : f_X7_addTube n P G a1 a2 a3 a4 a5 = some (res, P', G')) (sz : Nat) : Met l yL_addTube (Cond.codeWith yL_addTube cL_addTube 8 (some .int) [(0, 16, 19, 18), (0, 16, 23, 13)] :: lw_all) rm_L_addTube (PCz z D ca (wC ar ag ca P G ++ (ys ++ [(ao, oc ca O)])) sz [.ref (ag 0), .int a1, .int a2, .int a3, .int a4, .int a5, .ref ao]) (QMw D (wC ar ag ca P G ++ (ys ++ [(ao, oc ca O)])) (wC ar ag ca P' G' ++ (ys ++ [(ao, oc ca (va_up O 0 res.toInt64))])) sz (some (.int 0))) 1 6 (AL (wC ar ag ca P G ++ (ys ++ [(ao, oc ca O)])) sz) := by
  refine met_h (by decide) (Nat.le_of_ble_eq_true rfl) (fun p e s m args below meth c K htab hr0 hZ X hsz ls hl => ?_)
  have K : MC D ca p s m args meth c cL_addTube 8 RL := K
  have hx := K.1
  have hb := K.2.1
  have hl : lv_has ls 8 [(0, .ref (ag 0)), (1, .int a1), (2, .int a2), (3, .int a3), (4, .int a4), (5, .int a5), (6, .ref ao)] := hl
  generalize hQ : MQ below _ args s 1 6 _ = Q
  refine lv_aload hx hb dL_addTube_0 (lv_at hl 6 rfl) ?_
  refine lv_iconst (v := 0) hx hb dL_addTube_2 (by decide) ?_
  refine lv_aload_n hx hb dL_addTube_3 rfl (lv_at hl 0 rfl) ?_
  refine lv_iload_n hx hb dL_addTube_4 rfl (lv_at hl 1 rfl) ?_
  refine lv_iload_n hx hb dL_addTube_5 rfl (lv_at hl 2 rfl) ?_
  refine lv_iload_n hx hb dL_addTube_6 rfl (lv_at hl 3 rfl) ?_
  refine lv_iload hx hb dL_addTube_7 (lv_at hl 4 rfl) ?_
  refine lv_iload hx hb dL_addTube_9 (lv_at hl 5 rfl) ?_
  have kx := m_X7_addTube l D ca ar ag z n P G (ys ++ [(ao, oc ca O)]) a1 a2 a3 a4 a5 res P' G' h0 s.heap.size
  refine z_callVg K hZ X rfl wC_fstx kx hl.1 5 q1046 q1047 q1048 q87 q1049 hv_X7_addTube ⟨⟨Nat.le_of_ble_eq_true rfl, Nat.le_of_ble_eq_true rfl⟩, rfl, rfl⟩ (z_recvw K X (pl_glb (k := 0) (by decide)) rfl rfl) rfl rfl (Nat.le_of_ble_eq_true rfl) dL_addTube_11 ⟨Nat.le_of_ble_eq_true rfl, Nat.le_of_ble_eq_true rfl⟩ rfl (fun H locs X => ?_)
  refine lv_i2l hx hb dL_addTube_14 rfl ?_
  refine w_last K X (241 + ys.length) ctor_atw (vp_in_iff.mpr (by decide)) (ctor_set (q' := (ao, oc ca (va_up O 0 res.toInt64)))) dL_addTube_15 (fun H locs X => ?_)
  refine lv_goto (tgt := 27) hx hb dL_addTube_16 (by decide) ?_
  refine lv_iconst (v := 0) hx hb dL_addTube_27 (by decide) ?_
  subst hQ
  refine w_widen (k := 1) (n := 6) (Nat.le_of_ble_eq_true rfl) (Nat.le_of_ble_eq_true rfl) ?_
  exact w_iret K hr0 X xs_fst hsz dL_addTube_28
set_option maxRecDepth 100000 in
set_option maxHeartbeats 4000000 in
theorem e1_L_addTube (l : Launch) (D : va_G) (ca : Nat → ClassId) (ar : Nat → Nat → Nat) (ag : Nat → Nat) (z : ZG) (hl0 : l.stackTraces = false) (P : RowsS) (G : GlbS) (ys : va_W) (ao : Nat) (O : Nat → Int64) (a1 : Int32) (a2 : Int32) (a3 : Int32) (a4 : Int32) (a5 : Int32) (h0 : t_X7_addTube P G a1 a2 a3 a4 a5 = some 1) (sz : Nat) : Met l yL_addTube (Cond.codeWith yL_addTube cL_addTube 8 (some .int) [(0, 16, 19, 18), (0, 16, 23, 13)] :: lw_all) rm_L_addTube (PCz z D ca (wC ar ag ca P G ++ (ys ++ [(ao, oc ca O)])) sz [.ref (ag 0), .int a1, .int a2, .int a3, .int a4, .int a5, .ref ao]) (QMw D (wC ar ag ca P G ++ (ys ++ [(ao, oc ca O)])) (wC ar ag ca P G ++ (ys ++ [(ao, oc ca O)])) sz (some (.int 1))) 1 6 (AL (wC ar ag ca P G ++ (ys ++ [(ao, oc ca O)])) sz) := by
  refine met_h (by decide) (Nat.le_of_ble_eq_true rfl) (fun p e s m args below meth c K htab hr0 hZ X hsz ls hl => ?_)
  have K : MC D ca p s m args meth c cL_addTube 8 RL := K
  have hx := K.1
  have hb := K.2.1
  have hl : lv_has ls 8 [(0, .ref (ag 0)), (1, .int a1), (2, .int a2), (3, .int a3), (4, .int a4), (5, .int a5), (6, .ref ao)] := hl
  generalize hQ : MQ below _ args s 1 6 _ = Q
  refine lv_aload hx hb dL_addTube_0 (lv_at hl 6 rfl) ?_
  refine lv_iconst (v := 0) hx hb dL_addTube_2 (by decide) ?_
  refine lv_aload_n hx hb dL_addTube_3 rfl (lv_at hl 0 rfl) ?_
  refine lv_iload_n hx hb dL_addTube_4 rfl (lv_at hl 1 rfl) ?_
  refine lv_iload_n hx hb dL_addTube_5 rfl (lv_at hl 2 rfl) ?_
  refine lv_iload_n hx hb dL_addTube_6 rfl (lv_at hl 3 rfl) ?_
  refine lv_iload hx hb dL_addTube_7 (lv_at hl 4 rfl) ?_
  refine lv_iload hx hb dL_addTube_9 (lv_at hl 5 rfl) ?_
  have kx := x_X7_addTube l D ca ar ag z hl0 P G (ys ++ [(ao, oc ca O)]) a1 a2 a3 a4 a5 1 (by decide) h0 s.heap.size
  refine z_xcatchV (E := eN) K hZ X rfl kx hl.1 5 q1046 q1047 q1048 q87 q1049 hv_X7_addTube ⟨⟨Nat.le_of_ble_eq_true rfl, Nat.le_of_ble_eq_true rfl⟩, rfl, rfl⟩ (z_recvw K X (pl_glb (k := 0) (by decide)) rfl rfl) rfl rfl (Nat.le_of_ble_eq_true rfl) dL_addTube_11 ⟨Nat.le_of_ble_eq_true rfl, Nat.le_of_ble_eq_true rfl⟩ [] ⟨0, 16, 19, 18⟩ [⟨0, 16, 23, 13⟩] (htab.trans rfl) (fun _ h => nomatch h) (by decide) (by decide) q819 (List.mem_of_getElem? (i := 0) rfl) (fun q H locs X => ?_)
  refine lv_astore (lv' := [(7, .ref q), (0, .ref (ag 0)), (1, .int a1), (2, .int a2), (3, .int a3), (4, .int a4), (5, .int a5), (6, .ref ao)]) hx hb dL_addTube_19 hl (by decide) rfl (fun ls hl => ?_)
  refine lv_iconst (v := 1) hx hb dL_addTube_21 (by decide) ?_
  subst hQ
  exact w_iret K hr0 X rfl hsz dL_addTube_22
set_option maxRecDepth 100000 in
set_option maxHeartbeats 4000000 in
theorem e2_L_addTube (l : Launch) (D : va_G) (ca : Nat → ClassId) (ar : Nat → Nat → Nat) (ag : Nat → Nat) (z : ZG) (hl0 : l.stackTraces = false) (P : RowsS) (G : GlbS) (ys : va_W) (ao : Nat) (O : Nat → Int64) (a1 : Int32) (a2 : Int32) (a3 : Int32) (a4 : Int32) (a5 : Int32) (h0 : t_X7_addTube P G a1 a2 a3 a4 a5 = some 2) (sz : Nat) : Met l yL_addTube (Cond.codeWith yL_addTube cL_addTube 8 (some .int) [(0, 16, 19, 18), (0, 16, 23, 13)] :: lw_all) rm_L_addTube (PCz z D ca (wC ar ag ca P G ++ (ys ++ [(ao, oc ca O)])) sz [.ref (ag 0), .int a1, .int a2, .int a3, .int a4, .int a5, .ref ao]) (QMw D (wC ar ag ca P G ++ (ys ++ [(ao, oc ca O)])) (wC ar ag ca P G ++ (ys ++ [(ao, oc ca O)])) sz (some (.int 2))) 1 6 (AL (wC ar ag ca P G ++ (ys ++ [(ao, oc ca O)])) sz) := by
  refine met_h (by decide) (Nat.le_of_ble_eq_true rfl) (fun p e s m args below meth c K htab hr0 hZ X hsz ls hl => ?_)
  have K : MC D ca p s m args meth c cL_addTube 8 RL := K
  have hx := K.1
  have hb := K.2.1
  have hl : lv_has ls 8 [(0, .ref (ag 0)), (1, .int a1), (2, .int a2), (3, .int a3), (4, .int a4), (5, .int a5), (6, .ref ao)] := hl
  generalize hQ : MQ below _ args s 1 6 _ = Q
  refine lv_aload hx hb dL_addTube_0 (lv_at hl 6 rfl) ?_
  refine lv_iconst (v := 0) hx hb dL_addTube_2 (by decide) ?_
  refine lv_aload_n hx hb dL_addTube_3 rfl (lv_at hl 0 rfl) ?_
  refine lv_iload_n hx hb dL_addTube_4 rfl (lv_at hl 1 rfl) ?_
  refine lv_iload_n hx hb dL_addTube_5 rfl (lv_at hl 2 rfl) ?_
  refine lv_iload_n hx hb dL_addTube_6 rfl (lv_at hl 3 rfl) ?_
  refine lv_iload hx hb dL_addTube_7 (lv_at hl 4 rfl) ?_
  refine lv_iload hx hb dL_addTube_9 (lv_at hl 5 rfl) ?_
  have kx := x_X7_addTube l D ca ar ag z hl0 P G (ys ++ [(ao, oc ca O)]) a1 a2 a3 a4 a5 2 (by decide) h0 s.heap.size
  refine z_xcatchV (E := eI) K hZ X rfl kx hl.1 5 q1046 q1047 q1048 q87 q1049 hv_X7_addTube ⟨⟨Nat.le_of_ble_eq_true rfl, Nat.le_of_ble_eq_true rfl⟩, rfl, rfl⟩ (z_recvw K X (pl_glb (k := 0) (by decide)) rfl rfl) rfl rfl (Nat.le_of_ble_eq_true rfl) dL_addTube_11 ⟨Nat.le_of_ble_eq_true rfl, Nat.le_of_ble_eq_true rfl⟩ [⟨0, 16, 19, 18⟩] ⟨0, 16, 23, 13⟩ [] (htab.trans rfl) (fun q hq => by rw [List.mem_singleton] at hq; subst hq; exact Or.inr ⟨by decide, eN, K.2.2.2.2.1 _ q819, hZ.2.2.2.2.2.2.2.2.2.2.1⟩) (by decide) (by decide) q552 (List.mem_of_getElem? (i := 1) rfl) (fun q H locs X => ?_)
  refine lv_astore (lv' := [(7, .ref q), (0, .ref (ag 0)), (1, .int a1), (2, .int a2), (3, .int a3), (4, .int a4), (5, .int a5), (6, .ref ao)]) hx hb dL_addTube_23 hl (by decide) rfl (fun ls hl => ?_)
  refine lv_iconst (v := 2) hx hb dL_addTube_25 (by decide) ?_
  subst hQ
  exact w_iret K hr0 X rfl hsz dL_addTube_26
-- L_dropTube
abbrev rm_L_dropTube : Room := { frames := 8, cells := 1, slots := 6, locals := 187 }
set_option maxRecDepth 100000 in
set_option maxHeartbeats 4000000 in
theorem n_L_dropTube (l : Launch) (D : va_G) (ca : Nat → ClassId) (ar : Nat → Nat → Nat) (ag : Nat → Nat) (z : ZG) (n : Nat) (P : RowsS) (G : GlbS) (ys : va_W) (ao : Nat) (O : Nat → Int64) (a1 : Int32) (res : Int32) (P' : RowsS) (G' : GlbS) (h0 : f_X7_dropTube n P G a1 = some (res, P', G')) (sz : Nat) : Met l yL_dropTube (Cond.codeWith yL_dropTube cL_dropTube 4 (some .int) [(0, 9, 12, 18)] :: lw_all) rm_L_dropTube (PCz z D ca (wC ar ag ca P G ++ (ys ++ [(ao, oc ca O)])) sz [.ref (ag 0), .int a1, .ref ao]) (QMw D (wC ar ag ca P G ++ (ys ++ [(ao, oc ca O)])) (wC ar ag ca P' G' ++ (ys ++ [(ao, oc ca (va_up O 0 res.toInt64))])) sz (some (.int 0))) 1 6 (AL (wC ar ag ca P G ++ (ys ++ [(ao, oc ca O)])) sz) := by
  refine met_h (by decide) (Nat.le_of_ble_eq_true rfl) (fun p e s m args below meth c K htab hr0 hZ X hsz ls hl => ?_)
  have K : MC D ca p s m args meth c cL_dropTube 4 RL := K
  have hx := K.1
  have hb := K.2.1
  have hl : lv_has ls 4 [(0, .ref (ag 0)), (1, .int a1), (2, .ref ao)] := hl
  generalize hQ : MQ below _ args s 1 6 _ = Q
  refine lv_aload_n hx hb dL_dropTube_0 rfl (lv_at hl 2 rfl) ?_
  refine lv_iconst (v := 0) hx hb dL_dropTube_1 (by decide) ?_
  refine lv_aload_n hx hb dL_dropTube_2 rfl (lv_at hl 0 rfl) ?_
  refine lv_iload_n hx hb dL_dropTube_3 rfl (lv_at hl 1 rfl) ?_
  have kx := m_X7_dropTube l D ca ar ag z n P G (ys ++ [(ao, oc ca O)]) a1 res P' G' h0 s.heap.size
  refine z_callVg K hZ X rfl wC_fstx kx hl.1 1 q1056 q1057 q1058 q87 q1059 hv_X7_dropTube ⟨⟨Nat.le_of_ble_eq_true rfl, Nat.le_of_ble_eq_true rfl⟩, rfl, rfl⟩ (z_recvw K X (pl_glb (k := 0) (by decide)) rfl rfl) rfl rfl (Nat.le_of_ble_eq_true rfl) dL_dropTube_4 ⟨Nat.le_of_ble_eq_true rfl, Nat.le_of_ble_eq_true rfl⟩ rfl (fun H locs X => ?_)
  refine lv_i2l hx hb dL_dropTube_7 rfl ?_
  refine w_last K X (241 + ys.length) ctor_atw (vp_in_iff.mpr (by decide)) (ctor_set (q' := (ao, oc ca (va_up O 0 res.toInt64)))) dL_dropTube_8 (fun H locs X => ?_)
  refine lv_goto (tgt := 15) hx hb dL_dropTube_9 (by decide) ?_
  refine lv_iconst (v := 0) hx hb dL_dropTube_15 (by decide) ?_
  subst hQ
  refine w_widen (k := 1) (n := 6) (Nat.le_of_ble_eq_true rfl) (Nat.le_of_ble_eq_true rfl) ?_
  exact w_iret K hr0 X xs_fst hsz dL_dropTube_16
set_option maxRecDepth 100000 in
set_option maxHeartbeats 4000000 in
theorem e1_L_dropTube (l : Launch) (D : va_G) (ca : Nat → ClassId) (ar : Nat → Nat → Nat) (ag : Nat → Nat) (z : ZG) (hl0 : l.stackTraces = false) (P : RowsS) (G : GlbS) (ys : va_W) (ao : Nat) (O : Nat → Int64) (a1 : Int32) (h0 : t_X7_dropTube P G a1 = some 1) (sz : Nat) : Met l yL_dropTube (Cond.codeWith yL_dropTube cL_dropTube 4 (some .int) [(0, 9, 12, 18)] :: lw_all) rm_L_dropTube (PCz z D ca (wC ar ag ca P G ++ (ys ++ [(ao, oc ca O)])) sz [.ref (ag 0), .int a1, .ref ao]) (QMw D (wC ar ag ca P G ++ (ys ++ [(ao, oc ca O)])) (wC ar ag ca P G ++ (ys ++ [(ao, oc ca O)])) sz (some (.int 1))) 1 6 (AL (wC ar ag ca P G ++ (ys ++ [(ao, oc ca O)])) sz) := by
  refine met_h (by decide) (Nat.le_of_ble_eq_true rfl) (fun p e s m args below meth c K htab hr0 hZ X hsz ls hl => ?_)
  have K : MC D ca p s m args meth c cL_dropTube 4 RL := K
  have hx := K.1
  have hb := K.2.1
  have hl : lv_has ls 4 [(0, .ref (ag 0)), (1, .int a1), (2, .ref ao)] := hl
  generalize hQ : MQ below _ args s 1 6 _ = Q
  refine lv_aload_n hx hb dL_dropTube_0 rfl (lv_at hl 2 rfl) ?_
  refine lv_iconst (v := 0) hx hb dL_dropTube_1 (by decide) ?_
  refine lv_aload_n hx hb dL_dropTube_2 rfl (lv_at hl 0 rfl) ?_
  refine lv_iload_n hx hb dL_dropTube_3 rfl (lv_at hl 1 rfl) ?_
  have kx := x_X7_dropTube l D ca ar ag z hl0 P G (ys ++ [(ao, oc ca O)]) a1 1 (by decide) h0 s.heap.size
  refine z_xcatchV (E := eN) K hZ X rfl kx hl.1 1 q1056 q1057 q1058 q87 q1059 hv_X7_dropTube ⟨⟨Nat.le_of_ble_eq_true rfl, Nat.le_of_ble_eq_true rfl⟩, rfl, rfl⟩ (z_recvw K X (pl_glb (k := 0) (by decide)) rfl rfl) rfl rfl (Nat.le_of_ble_eq_true rfl) dL_dropTube_4 ⟨Nat.le_of_ble_eq_true rfl, Nat.le_of_ble_eq_true rfl⟩ [] ⟨0, 9, 12, 18⟩ [] (htab.trans rfl) (fun _ h => nomatch h) (by decide) (by decide) q819 (List.mem_of_getElem? (i := 0) rfl) (fun q H locs X => ?_)
  refine lv_astore_n (lv' := [(3, .ref q), (0, .ref (ag 0)), (1, .int a1), (2, .ref ao)]) hx hb dL_dropTube_12 rfl hl (by decide) rfl (fun ls hl => ?_)
  refine lv_iconst (v := 1) hx hb dL_dropTube_13 (by decide) ?_
  subst hQ
  exact w_iret K hr0 X rfl hsz dL_dropTube_14
-- L_format
abbrev rm_L_format : Room := { frames := 8, cells := 1, slots := 6, locals := 230 }
set_option maxRecDepth 100000 in
set_option maxHeartbeats 4000000 in
theorem n_L_format (l : Launch) (D : va_G) (ca : Nat → ClassId) (ar : Nat → Nat → Nat) (ag : Nat → Nat) (z : ZG) (n : Nat) (P : RowsS) (G : GlbS) (ys : va_W) (ao : Nat) (O : Nat → Int64) (a1 : Int32) (res : Int32) (G' : GlbS) (h0 : f_X7_format n P G a1 = some (res, G')) (sz : Nat) : Met l yL_format (Cond.codeWith yL_format cL_format 4 (some .int) [(0, 9, 12, 18)] :: lw_all) rm_L_format (PCz z D ca (wC ar ag ca P G ++ (ys ++ [(ao, oc ca O)])) sz [.ref (ag 0), .int a1, .ref ao]) (QMw D (wC ar ag ca P G ++ (ys ++ [(ao, oc ca O)])) (wC ar ag ca P G' ++ (ys ++ [(ao, oc ca (va_up O 0 res.toInt64))])) sz (some (.int 0))) 1 6 (AL (wC ar ag ca P G ++ (ys ++ [(ao, oc ca O)])) sz) := by
  refine met_h (by decide) (Nat.le_of_ble_eq_true rfl) (fun p e s m args below meth c K htab hr0 hZ X hsz ls hl => ?_)
  have K : MC D ca p s m args meth c cL_format 4 RL := K
  have hx := K.1
  have hb := K.2.1
  have hl : lv_has ls 4 [(0, .ref (ag 0)), (1, .int a1), (2, .ref ao)] := hl
  generalize hQ : MQ below _ args s 1 6 _ = Q
  refine lv_aload_n hx hb dL_format_0 rfl (lv_at hl 2 rfl) ?_
  refine lv_iconst (v := 0) hx hb dL_format_1 (by decide) ?_
  refine lv_aload_n hx hb dL_format_2 rfl (lv_at hl 0 rfl) ?_
  refine lv_iload_n hx hb dL_format_3 rfl (lv_at hl 1 rfl) ?_
  have kx := m_X7_format l D ca ar ag z n P G (ys ++ [(ao, oc ca O)]) a1 res G' h0 s.heap.size
  refine z_callVg K hZ X rfl wC_fstx kx hl.1 1 q1067 q1068 q1069 q87 q1070 hv_X7_format ⟨⟨Nat.le_of_ble_eq_true rfl, Nat.le_of_ble_eq_true rfl⟩, rfl, rfl⟩ (z_recvw K X (pl_glb (k := 0) (by decide)) rfl rfl) rfl rfl (Nat.le_of_ble_eq_true rfl) dL_format_4 ⟨Nat.le_of_ble_eq_true rfl, Nat.le_of_ble_eq_true rfl⟩ rfl (fun H locs X => ?_)
  refine lv_i2l hx hb dL_format_7 rfl ?_
  refine w_last K X (241 + ys.length) ctor_atw (vp_in_iff.mpr (by decide)) (ctor_set (q' := (ao, oc ca (va_up O 0 res.toInt64)))) dL_format_8 (fun H locs X => ?_)
  refine lv_goto (tgt := 15) hx hb dL_format_9 (by decide) ?_
  refine lv_iconst (v := 0) hx hb dL_format_15 (by decide) ?_
  subst hQ
  refine w_widen (k := 1) (n := 6) (Nat.le_of_ble_eq_true rfl) (Nat.le_of_ble_eq_true rfl) ?_
  exact w_iret K hr0 X xs_fst hsz dL_format_16
set_option maxRecDepth 100000 in
set_option maxHeartbeats 4000000 in
theorem e1_L_format (l : Launch) (D : va_G) (ca : Nat → ClassId) (ar : Nat → Nat → Nat) (ag : Nat → Nat) (z : ZG) (hl0 : l.stackTraces = false) (P : RowsS) (G : GlbS) (ys : va_W) (ao : Nat) (O : Nat → Int64) (a1 : Int32) (h0 : t_X7_format P G a1 = some 1) (sz : Nat) : Met l yL_format (Cond.codeWith yL_format cL_format 4 (some .int) [(0, 9, 12, 18)] :: lw_all) rm_L_format (PCz z D ca (wC ar ag ca P G ++ (ys ++ [(ao, oc ca O)])) sz [.ref (ag 0), .int a1, .ref ao]) (QMw D (wC ar ag ca P G ++ (ys ++ [(ao, oc ca O)])) (wC ar ag ca P G ++ (ys ++ [(ao, oc ca O)])) sz (some (.int 1))) 1 6 (AL (wC ar ag ca P G ++ (ys ++ [(ao, oc ca O)])) sz) := by
  refine met_h (by decide) (Nat.le_of_ble_eq_true rfl) (fun p e s m args below meth c K htab hr0 hZ X hsz ls hl => ?_)
  have K : MC D ca p s m args meth c cL_format 4 RL := K
  have hx := K.1
  have hb := K.2.1
  have hl : lv_has ls 4 [(0, .ref (ag 0)), (1, .int a1), (2, .ref ao)] := hl
  generalize hQ : MQ below _ args s 1 6 _ = Q
  refine lv_aload_n hx hb dL_format_0 rfl (lv_at hl 2 rfl) ?_
  refine lv_iconst (v := 0) hx hb dL_format_1 (by decide) ?_
  refine lv_aload_n hx hb dL_format_2 rfl (lv_at hl 0 rfl) ?_
  refine lv_iload_n hx hb dL_format_3 rfl (lv_at hl 1 rfl) ?_
  have kx := x_X7_format l D ca ar ag z hl0 P G (ys ++ [(ao, oc ca O)]) a1 1 (by decide) h0 s.heap.size
  refine z_xcatchV (E := eN) K hZ X rfl kx hl.1 1 q1067 q1068 q1069 q87 q1070 hv_X7_format ⟨⟨Nat.le_of_ble_eq_true rfl, Nat.le_of_ble_eq_true rfl⟩, rfl, rfl⟩ (z_recvw K X (pl_glb (k := 0) (by decide)) rfl rfl) rfl rfl (Nat.le_of_ble_eq_true rfl) dL_format_4 ⟨Nat.le_of_ble_eq_true rfl, Nat.le_of_ble_eq_true rfl⟩ [] ⟨0, 9, 12, 18⟩ [] (htab.trans rfl) (fun _ h => nomatch h) (by decide) (by decide) q819 (List.mem_of_getElem? (i := 0) rfl) (fun q H locs X => ?_)
  refine lv_astore_n (lv' := [(3, .ref q), (0, .ref (ag 0)), (1, .int a1), (2, .ref ao)]) hx hb dL_format_12 rfl hl (by decide) rfl (fun ls hl => ?_)
  refine lv_iconst (v := 1) hx hb dL_format_13 (by decide) ?_
  subst hQ
  exact w_iret K hr0 X rfl hsz dL_format_14
-- L_query
abbrev rm_L_query : Room := { frames := 65, cells := 1, slots := 6, locals := 5082 }
set_option maxRecDepth 100000 in
set_option maxHeartbeats 4000000 in
theorem n_L_query (l : Launch) (D : va_G) (ca : Nat → ClassId) (ar : Nat → Nat → Nat) (ag : Nat → Nat) (z : ZG) (n : Nat) (P : RowsS) (G : GlbS) (ys : va_W) (ao : Nat) (O : Nat → Int64) (a1 : Int32) (res : Int32) (G' : GlbS) (h0 : f_X7_query n P G a1 = some (res, G')) (sz : Nat) : Met l yL_query (Cond.codeWith yL_query cL_query 4 (some .int) [(0, 9, 12, 13)] :: lw_all) rm_L_query (PCz z D ca (wC ar ag ca P G ++ (ys ++ [(ao, oc ca O)])) sz [.ref (ag 0), .int a1, .ref ao]) (QMw D (wC ar ag ca P G ++ (ys ++ [(ao, oc ca O)])) (wC ar ag ca P G' ++ (ys ++ [(ao, oc ca (va_up O 0 res.toInt64))])) sz (some (.int 0))) 1 6 (AL (wC ar ag ca P G ++ (ys ++ [(ao, oc ca O)])) sz) := by
  refine met_h (by decide) (Nat.le_of_ble_eq_true rfl) (fun p e s m args below meth c K htab hr0 hZ X hsz ls hl => ?_)
  have K : MC D ca p s m args meth c cL_query 4 RL := K
  have hx := K.1
  have hb := K.2.1
  have hl : lv_has ls 4 [(0, .ref (ag 0)), (1, .int a1), (2, .ref ao)] := hl
  generalize hQ : MQ below _ args s 1 6 _ = Q
  refine lv_aload_n hx hb dL_query_0 rfl (lv_at hl 2 rfl) ?_
  refine lv_iconst (v := 0) hx hb dL_query_1 (by decide) ?_
  refine lv_aload_n hx hb dL_query_2 rfl (lv_at hl 0 rfl) ?_
  refine lv_iload_n hx hb dL_query_3 rfl (lv_at hl 1 rfl) ?_
  have kx := m_X7_query l D ca ar ag z n P G (ys ++ [(ao, oc ca O)]) a1 res G' h0 s.heap.size
  refine z_callVg K hZ X rfl wC_fstx kx hl.1 1 q1291 q1292 q1293 q87 q1294 hv_X7_query ⟨⟨Nat.le_of_ble_eq_true rfl, Nat.le_of_ble_eq_true rfl⟩, rfl, rfl⟩ (z_recvw K X (pl_glb (k := 0) (by decide)) rfl rfl) rfl rfl (Nat.le_of_ble_eq_true rfl) dL_query_4 ⟨Nat.le_of_ble_eq_true rfl, Nat.le_of_ble_eq_true rfl⟩ rfl (fun H locs X => ?_)
  refine lv_i2l hx hb dL_query_7 rfl ?_
  refine w_last K X (241 + ys.length) ctor_atw (vp_in_iff.mpr (by decide)) (ctor_set (q' := (ao, oc ca (va_up O 0 res.toInt64)))) dL_query_8 (fun H locs X => ?_)
  refine lv_goto (tgt := 15) hx hb dL_query_9 (by decide) ?_
  refine lv_iconst (v := 0) hx hb dL_query_15 (by decide) ?_
  subst hQ
  refine w_widen (k := 1) (n := 6) (Nat.le_of_ble_eq_true rfl) (Nat.le_of_ble_eq_true rfl) ?_
  exact w_iret K hr0 X xs_fst hsz dL_query_16
set_option maxRecDepth 100000 in
set_option maxHeartbeats 4000000 in
theorem e2_L_query (l : Launch) (D : va_G) (ca : Nat → ClassId) (ar : Nat → Nat → Nat) (ag : Nat → Nat) (z : ZG) (hl0 : l.stackTraces = false) (P : RowsS) (G : GlbS) (ys : va_W) (ao : Nat) (O : Nat → Int64) (a1 : Int32) (h0 : t_X7_query P G a1 = some 2) (sz : Nat) : Met l yL_query (Cond.codeWith yL_query cL_query 4 (some .int) [(0, 9, 12, 13)] :: lw_all) rm_L_query (PCz z D ca (wC ar ag ca P G ++ (ys ++ [(ao, oc ca O)])) sz [.ref (ag 0), .int a1, .ref ao]) (QMw D (wC ar ag ca P G ++ (ys ++ [(ao, oc ca O)])) (wC ar ag ca P G ++ (ys ++ [(ao, oc ca O)])) sz (some (.int 1))) 1 6 (AL (wC ar ag ca P G ++ (ys ++ [(ao, oc ca O)])) sz) := by
  refine met_h (by decide) (Nat.le_of_ble_eq_true rfl) (fun p e s m args below meth c K htab hr0 hZ X hsz ls hl => ?_)
  have K : MC D ca p s m args meth c cL_query 4 RL := K
  have hx := K.1
  have hb := K.2.1
  have hl : lv_has ls 4 [(0, .ref (ag 0)), (1, .int a1), (2, .ref ao)] := hl
  generalize hQ : MQ below _ args s 1 6 _ = Q
  refine lv_aload_n hx hb dL_query_0 rfl (lv_at hl 2 rfl) ?_
  refine lv_iconst (v := 0) hx hb dL_query_1 (by decide) ?_
  refine lv_aload_n hx hb dL_query_2 rfl (lv_at hl 0 rfl) ?_
  refine lv_iload_n hx hb dL_query_3 rfl (lv_at hl 1 rfl) ?_
  have kx := x_X7_query l D ca ar ag z hl0 P G (ys ++ [(ao, oc ca O)]) a1 2 (by decide) h0 s.heap.size
  refine z_xcatchV (E := eI) K hZ X rfl kx hl.1 1 q1291 q1292 q1293 q87 q1294 hv_X7_query ⟨⟨Nat.le_of_ble_eq_true rfl, Nat.le_of_ble_eq_true rfl⟩, rfl, rfl⟩ (z_recvw K X (pl_glb (k := 0) (by decide)) rfl rfl) rfl rfl (Nat.le_of_ble_eq_true rfl) dL_query_4 ⟨Nat.le_of_ble_eq_true rfl, Nat.le_of_ble_eq_true rfl⟩ [] ⟨0, 9, 12, 13⟩ [] (htab.trans rfl) (fun _ h => nomatch h) (by decide) (by decide) q552 (List.mem_of_getElem? (i := 1) rfl) (fun q H locs X => ?_)
  refine lv_astore_n (lv' := [(3, .ref q), (0, .ref (ag 0)), (1, .int a1), (2, .ref ao)]) hx hb dL_query_12 rfl hl (by decide) rfl (fun ls hl => ?_)
  refine lv_iconst (v := 1) hx hb dL_query_13 (by decide) ?_
  subst hQ
  exact w_iret K hr0 X rfl hsz dL_query_14
