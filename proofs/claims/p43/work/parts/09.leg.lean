-- X1_liquid
def f_X1_liquid (L : (Nat → Int32) × (Nat → Int64)) (a1 : Int32) (a2 : Int32) (a3 : Int32) : (Nat → Int32) × (Nat → Int64) :=
  lt ((va_up L.1 0 a1, L.2)) fun Lv1 =>
  lt ((va_up Lv1.1 1 a2, Lv1.2)) fun Lv2 =>
  lt ((va_up Lv2.1 2 a3, Lv2.2)) fun Lv3 =>
  Lv3
abbrev rm_X1_liquid : Room := { frames := 0, cells := 0, slots := 0, locals := 0 }
set_option maxRecDepth 100000 in
set_option maxHeartbeats 4000000 in
theorem m_X1_liquid (l : Launch) (D : va_G) (ca : Nat → ClassId) (ar : Nat → Nat → Nat) (ag : Nat → Nat) (P : RowsS) (r j : Nat) (L : (Nat → Int32) × (Nat → Int64)) (G : GlbS) (xs : va_W) (hr : r < 13) (hj : j < 2) (a1 : Int32) (a2 : Int32) (a3 : Int32) (L' : (Nat → Int32) × (Nat → Int64)) (h0 : f_X1_liquid L a1 a2 a3 = L') (sz : Nat) : Met l yX1_liquid (ws_ yX1_liquid cX1_liquid 4 none) rm_X1_liquid (PCw D ca (wC ar ag ca (upL P r (j + 2) L) G ++ xs) sz [.ref (ar r (j + 2)), .int a1, .int a2, .int a3]) (QMw D (wC ar ag ca (upL P r (j + 2) L) G ++ xs) (wC ar ag ca (upL P r (j + 2) (L')) G ++ xs) sz none) 0 0 (AL (wC ar ag ca (upL P r (j + 2) L) G ++ xs) sz) := by
  refine met_of (by decide) (Nat.le_of_ble_eq_true rfl) (fun p e s m args below meth c K hr0 X hsz ls hl => ?_)
  have K : MC D ca p s m args meth c cX1_liquid 4 RX1 := K
  have hx := K.1
  have hb := K.2.1
  have hl : lv_has ls 4 [(0, .ref (ar r (j + 2))), (1, .int a1), (2, .int a2), (3, .int a3)] := hl
  generalize hQ : MQ below _ args s 0 0 _ = Q
  unfold f_X1_liquid at h0
  suffices Z : ∀ (H : Heap) (locs : List Loc) (X : RW D (wC ar ag ca (upL P r (j + 2) L) G ++ xs) s.heap H locs), W p l e rm_X1_liquid s m args below meth c H locs 0 0 Q (F0 m 0 ls []) from Z _ _ X
  intro H locs X
  refine lv_aload_n hx hb dX1_liquid_0 rfl (lv_at hl 0 rfl) ?_
  refine lv_iload_n hx hb dX1_liquid_1 rfl (lv_at hl 1 rfl) ?_
  obtain ⟨Lv1, eLv1, h0⟩ := lt_out h0
  refine p_legi K X hr hj 0 (by decide) (upL_si eLv1) q55 dX1_liquid_2 (fun H locs X => ?_)
  refine lv_aload_n hx hb dX1_liquid_5 rfl (lv_at hl 0 rfl) ?_
  refine lv_iload_n hx hb dX1_liquid_6 rfl (lv_at hl 2 rfl) ?_
  obtain ⟨Lv2, eLv2, h0⟩ := lt_out h0
  refine p_legi K X hr hj 1 (by decide) (upL_si eLv2) q58 dX1_liquid_7 (fun H locs X => ?_)
  refine lv_aload_n hx hb dX1_liquid_10 rfl (lv_at hl 0 rfl) ?_
  refine lv_iload_n hx hb dX1_liquid_11 rfl (lv_at hl 3 rfl) ?_
  obtain ⟨Lv3, eLv3, h0⟩ := lt_out h0
  refine p_legi K X hr hj 2 (by decide) (upL_si eLv3) q61 dX1_liquid_12 (fun H locs X => ?_)
  subst h0
  subst hQ
  exact w_vret K hr0 X wC_fstx hsz dX1_liquid_15
theorem mR_X1_liquid (l : Launch) (D : va_G) (ca : Nat → ClassId) (ar : Nat → Nat → Nat) (ag : Nat → Nat) (P : RowsS) (r j : Nat) (R : RowS) (G : GlbS) (xs : va_W) (hr : r < 13) (hj : j < 2) (a1 : Int32) (a2 : Int32) (a3 : Int32) (L' : (Nat → Int32) × (Nat → Int64)) (h0 : f_X1_liquid (R.1 (j + 2), R.2 (j + 2)) a1 a2 a3 = L') (sz : Nat) : Met l yX1_liquid (ws_ yX1_liquid cX1_liquid 4 none) rm_X1_liquid (PCw D ca (wC ar ag ca (va_up P r R) G ++ xs) sz [.ref (ar r (j + 2)), .int a1, .int a2, .int a3]) (QMw D (wC ar ag ca (va_up P r R) G ++ xs) (wC ar ag ca (va_up P r (stL R (j + 2) L')) G ++ xs) sz none) 0 0 (AL (wC ar ag ca (va_up P r R) G ++ xs) sz) := by
  have k := m_X1_liquid l D ca ar ag (va_up P r R) r j (R.1 (j + 2), R.2 (j + 2)) G xs hr hj a1 a2 a3 L' h0 sz
  simpa only [upL_R, stL_self] using k
theorem mC_X1_liquid (l : Launch) (D : va_G) (ca : Nat → ClassId) (ar : Nat → Nat → Nat) (ag : Nat → Nat) (P : RowsS) (r j : Nat) (G : GlbS) (xs : va_W) (hr : r < 13) (hj : j < 2) (a1 : Int32) (a2 : Int32) (a3 : Int32) (L' : (Nat → Int32) × (Nat → Int64)) (h0 : f_X1_liquid ((P r).1 (j + 2), (P r).2 (j + 2)) a1 a2 a3 = L') (sz : Nat) : Met l yX1_liquid (ws_ yX1_liquid cX1_liquid 4 none) rm_X1_liquid (PCw D ca (wC ar ag ca P G ++ xs) sz [.ref (ar r (j + 2)), .int a1, .int a2, .int a3]) (QMw D (wC ar ag ca P G ++ xs) (wC ar ag ca (upL P r (j + 2) L') G ++ xs) sz none) 0 0 (AL (wC ar ag ca P G ++ xs) sz) := by
  have k := m_X1_liquid l D ca ar ag P r j ((P r).1 (j + 2), (P r).2 (j + 2)) G xs hr hj a1 a2 a3 L' h0 sz
  simpa only [upL_self] using k
-- X1_clear
def f_X1_clear (L : (Nat → Int32) × (Nat → Int64)) : (Nat → Int32) × (Nat → Int64) :=
  lt (f_X1_liquid L 1000 10000 0) fun x1 =>
  lt (x1) fun Lv2 =>
  lt ((Lv2.1, va_up Lv2.2 3 0)) fun Lv3 =>
  lt ((Lv3.1, va_up Lv3.2 4 0)) fun Lv4 =>
  lt ((Lv4.1, va_up Lv4.2 5 0)) fun Lv5 =>
  lt ((Lv5.1, va_up Lv5.2 6 0)) fun Lv6 =>
  Lv6
abbrev rm_X1_clear : Room := { frames := 1, cells := 0, slots := 0, locals := 23 }
set_option maxRecDepth 100000 in
set_option maxHeartbeats 4000000 in
theorem m_X1_clear (l : Launch) (D : va_G) (ca : Nat → ClassId) (ar : Nat → Nat → Nat) (ag : Nat → Nat) (P : RowsS) (r j : Nat) (L : (Nat → Int32) × (Nat → Int64)) (G : GlbS) (xs : va_W) (hr : r < 13) (hj : j < 2) (L' : (Nat → Int32) × (Nat → Int64)) (h0 : f_X1_clear L = L') (sz : Nat) : Met l yX1_clear (ws_ yX1_clear cX1_clear 1 none) rm_X1_clear (PCw D ca (wC ar ag ca (upL P r (j + 2) L) G ++ xs) sz [.ref (ar r (j + 2))]) (QMw D (wC ar ag ca (upL P r (j + 2) L) G ++ xs) (wC ar ag ca (upL P r (j + 2) (L')) G ++ xs) sz none) 0 0 (AL (wC ar ag ca (upL P r (j + 2) L) G ++ xs) sz) := by
  refine met_of (by decide) (Nat.le_of_ble_eq_true rfl) (fun p e s m args below meth c K hr0 X hsz ls hl => ?_)
  have K : MC D ca p s m args meth c cX1_clear 1 RX1 := K
  have hx := K.1
  have hb := K.2.1
  have hl : lv_has ls 1 [(0, .ref (ar r (j + 2)))] := hl
  generalize hQ : MQ below _ args s 0 0 _ = Q
  unfold f_X1_clear at h0
  suffices Z : ∀ (H : Heap) (locs : List Loc) (X : RW D (wC ar ag ca (upL P r (j + 2) L) G ++ xs) s.heap H locs), W p l e rm_X1_clear s m args below meth c H locs 0 0 Q (F0 m 0 ls []) from Z _ _ X
  intro H locs X
  refine lv_aload_n hx hb dX1_clear_0 rfl (lv_at hl 0 rfl) ?_
  refine lv_sipush (v := 1000) hx hb dX1_clear_1 (by decide) ?_
  refine lv_sipush (v := 10000) hx hb dX1_clear_4 (by decide) ?_
  refine lv_iconst (v := 0) hx hb dX1_clear_7 (by decide) ?_
  obtain ⟨x1, ex1, h0⟩ := lt_out h0
  obtain ⟨Lv2, eLv2, h0⟩ := lt_out h0
  have kx1 := m_X1_liquid l D ca ar ag P r j L G xs hr hj 1000 10000 0 x1 ex1.symm H.size
  rw [← eLv2] at kx1
  refine w_callV0 K X wC_fstx kx1 hl.1 3 q270 q271 q272 q18 q273 hv_X1_liquid ⟨⟨Nat.le_of_ble_eq_true rfl, Nat.le_of_ble_eq_true rfl⟩, rfl, rfl⟩ (pl_leg hr hj) rfl rfl rfl rfl (Nat.le_of_ble_eq_true rfl) dX1_clear_8 ⟨Nat.le_of_ble_eq_true rfl, Nat.le_of_ble_eq_true rfl⟩ rfl (fun H locs X => ?_)
  refine lv_aload_n hx hb dX1_clear_11 rfl (lv_at hl 0 rfl) ?_
  refine lv_lconst (v := 0) hx hb dX1_clear_12 (by decide) ?_
  obtain ⟨Lv3, eLv3, h0⟩ := lt_out h0
  refine p_legl K X hr hj 3 (by decide) (upL_sl eLv3) q64 dX1_clear_13 (fun H locs X => ?_)
  refine lv_aload_n hx hb dX1_clear_16 rfl (lv_at hl 0 rfl) ?_
  refine lv_lconst (v := 0) hx hb dX1_clear_17 (by decide) ?_
  obtain ⟨Lv4, eLv4, h0⟩ := lt_out h0
  refine p_legl K X hr hj 4 (by decide) (upL_sl eLv4) q67 dX1_clear_18 (fun H locs X => ?_)
  refine lv_aload_n hx hb dX1_clear_21 rfl (lv_at hl 0 rfl) ?_
  refine lv_lconst (v := 0) hx hb dX1_clear_22 (by decide) ?_
  obtain ⟨Lv5, eLv5, h0⟩ := lt_out h0
  refine p_legl K X hr hj 5 (by decide) (upL_sl eLv5) q70 dX1_clear_23 (fun H locs X => ?_)
  refine lv_aload_n hx hb dX1_clear_26 rfl (lv_at hl 0 rfl) ?_
  refine lv_lconst (v := 0) hx hb dX1_clear_27 (by decide) ?_
  obtain ⟨Lv6, eLv6, h0⟩ := lt_out h0
  refine p_legl K X hr hj 6 (by decide) (upL_sl eLv6) q72 dX1_clear_28 (fun H locs X => ?_)
  subst h0
  subst hQ
  exact w_vret K hr0 X wC_fstx hsz dX1_clear_31
theorem mR_X1_clear (l : Launch) (D : va_G) (ca : Nat → ClassId) (ar : Nat → Nat → Nat) (ag : Nat → Nat) (P : RowsS) (r j : Nat) (R : RowS) (G : GlbS) (xs : va_W) (hr : r < 13) (hj : j < 2) (L' : (Nat → Int32) × (Nat → Int64)) (h0 : f_X1_clear (R.1 (j + 2), R.2 (j + 2)) = L') (sz : Nat) : Met l yX1_clear (ws_ yX1_clear cX1_clear 1 none) rm_X1_clear (PCw D ca (wC ar ag ca (va_up P r R) G ++ xs) sz [.ref (ar r (j + 2))]) (QMw D (wC ar ag ca (va_up P r R) G ++ xs) (wC ar ag ca (va_up P r (stL R (j + 2) L')) G ++ xs) sz none) 0 0 (AL (wC ar ag ca (va_up P r R) G ++ xs) sz) := by
  have k := m_X1_clear l D ca ar ag (va_up P r R) r j (R.1 (j + 2), R.2 (j + 2)) G xs hr hj  L' h0 sz
  simpa only [upL_R, stL_self] using k
theorem mC_X1_clear (l : Launch) (D : va_G) (ca : Nat → ClassId) (ar : Nat → Nat → Nat) (ag : Nat → Nat) (P : RowsS) (r j : Nat) (G : GlbS) (xs : va_W) (hr : r < 13) (hj : j < 2) (L' : (Nat → Int32) × (Nat → Int64)) (h0 : f_X1_clear ((P r).1 (j + 2), (P r).2 (j + 2)) = L') (sz : Nat) : Met l yX1_clear (ws_ yX1_clear cX1_clear 1 none) rm_X1_clear (PCw D ca (wC ar ag ca P G ++ xs) sz [.ref (ar r (j + 2))]) (QMw D (wC ar ag ca P G ++ xs) (wC ar ag ca (upL P r (j + 2) L') G ++ xs) sz none) 0 0 (AL (wC ar ag ca P G ++ xs) sz) := by
  have k := m_X1_clear l D ca ar ag P r j ((P r).1 (j + 2), (P r).2 (j + 2)) G xs hr hj  L' h0 sz
  simpa only [upL_self] using k
-- X1_copyFrom
def f_X1_copyFrom (L : (Nat → Int32) × (Nat → Int64)) (L2 : (Nat → Int32) × (Nat → Int64)) : (Nat → Int32) × (Nat → Int64) :=
  lt (f_X1_liquid L (L2.1 0) (L2.1 1) (L2.1 2)) fun x1 =>
  lt (x1) fun Lv2 =>
  lt ((Lv2.1, va_up Lv2.2 3 (L2.2 3))) fun Lv3 =>
  lt ((Lv3.1, va_up Lv3.2 4 (L2.2 4))) fun Lv4 =>
  lt ((Lv4.1, va_up Lv4.2 5 (L2.2 5))) fun Lv5 =>
  lt ((Lv5.1, va_up Lv5.2 6 (L2.2 6))) fun Lv6 =>
  Lv6
abbrev rm_X1_copyFrom : Room := { frames := 1, cells := 0, slots := 0, locals := 23 }
set_option maxRecDepth 100000 in
set_option maxHeartbeats 4000000 in
theorem m_X1_copyFrom (l : Launch) (D : va_G) (ca : Nat → ClassId) (ar : Nat → Nat → Nat) (ag : Nat → Nat) (P : RowsS) (r j : Nat) (L : (Nat → Int32) × (Nat → Int64)) (G : GlbS) (xs : va_W) (hr : r < 13) (hj : j < 2) (r2 j2 : Nat) (hr2 : r2 < 13) (hj2 : j2 < 2) (hne : r2 ≠ r) (L' : (Nat → Int32) × (Nat → Int64)) (h0 : f_X1_copyFrom L ((P r2).1 (j2 + 2), (P r2).2 (j2 + 2)) = L') (sz : Nat) : Met l yX1_copyFrom (ws_ yX1_copyFrom cX1_copyFrom 2 none) rm_X1_copyFrom (PCw D ca (wC ar ag ca (upL P r (j + 2) L) G ++ xs) sz [.ref (ar r (j + 2)), .ref (ar r2 (j2 + 2))]) (QMw D (wC ar ag ca (upL P r (j + 2) L) G ++ xs) (wC ar ag ca (upL P r (j + 2) (L')) G ++ xs) sz none) 0 0 (AL (wC ar ag ca (upL P r (j + 2) L) G ++ xs) sz) := by
  refine met_of (by decide) (Nat.le_of_ble_eq_true rfl) (fun p e s m args below meth c K hr0 X hsz ls hl => ?_)
  have K : MC D ca p s m args meth c cX1_copyFrom 2 RX1 := K
  have hx := K.1
  have hb := K.2.1
  have hl : lv_has ls 2 [(0, .ref (ar r (j + 2))), (1, .ref (ar r2 (j2 + 2)))] := hl
  generalize hL2 : ((P r2).1 (j2 + 2), (P r2).2 (j2 + 2)) = L2 at h0
  generalize hQ : MQ below _ args s 0 0 _ = Q
  unfold f_X1_copyFrom at h0
  suffices Z : ∀ (H : Heap) (locs : List Loc) (X : RW D (wC ar ag ca (upL P r (j + 2) L) G ++ xs) s.heap H locs), W p l e rm_X1_copyFrom s m args below meth c H locs 0 0 Q (F0 m 0 ls []) from Z _ _ X
  intro H locs X
  refine lv_aload_n hx hb dX1_copyFrom_0 rfl (lv_at hl 0 rfl) ?_
  refine lv_aload_n hx hb dX1_copyFrom_1 rfl (lv_at hl 1 rfl) ?_
  refine g_legi K X hr2 hj2 ((upL_n1 hne).trans (congrArg Prod.fst hL2)) 0 (by decide) q55 dX1_copyFrom_2 ?_
  refine lv_aload_n hx hb dX1_copyFrom_5 rfl (lv_at hl 1 rfl) ?_
  refine g_legi K X hr2 hj2 ((upL_n1 hne).trans (congrArg Prod.fst hL2)) 1 (by decide) q58 dX1_copyFrom_6 ?_
  refine lv_aload_n hx hb dX1_copyFrom_9 rfl (lv_at hl 1 rfl) ?_
  refine g_legi K X hr2 hj2 ((upL_n1 hne).trans (congrArg Prod.fst hL2)) 2 (by decide) q61 dX1_copyFrom_10 ?_
  obtain ⟨x1, ex1, h0⟩ := lt_out h0
  obtain ⟨Lv2, eLv2, h0⟩ := lt_out h0
  have kx1 := m_X1_liquid l D ca ar ag P r j L G xs hr hj (L2.1 0) (L2.1 1) (L2.1 2) x1 ex1.symm H.size
  rw [← eLv2] at kx1
  refine w_callV0 K X wC_fstx kx1 hl.1 3 q270 q271 q272 q18 q273 hv_X1_liquid ⟨⟨Nat.le_of_ble_eq_true rfl, Nat.le_of_ble_eq_true rfl⟩, rfl, rfl⟩ (pl_leg hr hj) rfl rfl rfl rfl (Nat.le_of_ble_eq_true rfl) dX1_copyFrom_13 ⟨Nat.le_of_ble_eq_true rfl, Nat.le_of_ble_eq_true rfl⟩ rfl (fun H locs X => ?_)
  refine lv_aload_n hx hb dX1_copyFrom_16 rfl (lv_at hl 0 rfl) ?_
  refine lv_aload_n hx hb dX1_copyFrom_17 rfl (lv_at hl 1 rfl) ?_
  refine g_legl K X hr2 hj2 ((upL_n2 hne).trans (congrArg Prod.snd hL2)) 3 (by decide) q64 dX1_copyFrom_18 ?_
  obtain ⟨Lv3, eLv3, h0⟩ := lt_out h0
  refine p_legl K X hr hj 3 (by decide) (upL_sl eLv3) q64 dX1_copyFrom_21 (fun H locs X => ?_)
  refine lv_aload_n hx hb dX1_copyFrom_24 rfl (lv_at hl 0 rfl) ?_
  refine lv_aload_n hx hb dX1_copyFrom_25 rfl (lv_at hl 1 rfl) ?_
  refine g_legl K X hr2 hj2 ((upL_n2 hne).trans (congrArg Prod.snd hL2)) 4 (by decide) q67 dX1_copyFrom_26 ?_
  obtain ⟨Lv4, eLv4, h0⟩ := lt_out h0
  refine p_legl K X hr hj 4 (by decide) (upL_sl eLv4) q67 dX1_copyFrom_29 (fun H locs X => ?_)
  refine lv_aload_n hx hb dX1_copyFrom_32 rfl (lv_at hl 0 rfl) ?_
  refine lv_aload_n hx hb dX1_copyFrom_33 rfl (lv_at hl 1 rfl) ?_
  refine g_legl K X hr2 hj2 ((upL_n2 hne).trans (congrArg Prod.snd hL2)) 5 (by decide) q70 dX1_copyFrom_34 ?_
  obtain ⟨Lv5, eLv5, h0⟩ := lt_out h0
  refine p_legl K X hr hj 5 (by decide) (upL_sl eLv5) q70 dX1_copyFrom_37 (fun H locs X => ?_)
  refine lv_aload_n hx hb dX1_copyFrom_40 rfl (lv_at hl 0 rfl) ?_
  refine lv_aload_n hx hb dX1_copyFrom_41 rfl (lv_at hl 1 rfl) ?_
  refine g_legl K X hr2 hj2 ((upL_n2 hne).trans (congrArg Prod.snd hL2)) 6 (by decide) q72 dX1_copyFrom_42 ?_
  obtain ⟨Lv6, eLv6, h0⟩ := lt_out h0
  refine p_legl K X hr hj 6 (by decide) (upL_sl eLv6) q72 dX1_copyFrom_45 (fun H locs X => ?_)
  subst h0
  subst hQ
  exact w_vret K hr0 X wC_fstx hsz dX1_copyFrom_48
theorem mR_X1_copyFrom (l : Launch) (D : va_G) (ca : Nat → ClassId) (ar : Nat → Nat → Nat) (ag : Nat → Nat) (P : RowsS) (r j : Nat) (R : RowS) (G : GlbS) (xs : va_W) (hr : r < 13) (hj : j < 2) (r2 j2 : Nat) (hr2 : r2 < 13) (hj2 : j2 < 2) (hne : r2 ≠ r) (L' : (Nat → Int32) × (Nat → Int64)) (h0 : f_X1_copyFrom (R.1 (j + 2), R.2 (j + 2)) (((va_up P r R) r2).1 (j2 + 2), ((va_up P r R) r2).2 (j2 + 2)) = L') (sz : Nat) : Met l yX1_copyFrom (ws_ yX1_copyFrom cX1_copyFrom 2 none) rm_X1_copyFrom (PCw D ca (wC ar ag ca (va_up P r R) G ++ xs) sz [.ref (ar r (j + 2)), .ref (ar r2 (j2 + 2))]) (QMw D (wC ar ag ca (va_up P r R) G ++ xs) (wC ar ag ca (va_up P r (stL R (j + 2) L')) G ++ xs) sz none) 0 0 (AL (wC ar ag ca (va_up P r R) G ++ xs) sz) := by
  have k := m_X1_copyFrom l D ca ar ag (va_up P r R) r j (R.1 (j + 2), R.2 (j + 2)) G xs hr hj r2 j2 hr2 hj2 hne L' h0 sz
  simpa only [upL_R, stL_self] using k
theorem mC_X1_copyFrom (l : Launch) (D : va_G) (ca : Nat → ClassId) (ar : Nat → Nat → Nat) (ag : Nat → Nat) (P : RowsS) (r j : Nat) (G : GlbS) (xs : va_W) (hr : r < 13) (hj : j < 2) (r2 j2 : Nat) (hr2 : r2 < 13) (hj2 : j2 < 2) (hne : r2 ≠ r) (L' : (Nat → Int32) × (Nat → Int64)) (h0 : f_X1_copyFrom ((P r).1 (j + 2), (P r).2 (j + 2)) ((P r2).1 (j2 + 2), (P r2).2 (j2 + 2)) = L') (sz : Nat) : Met l yX1_copyFrom (ws_ yX1_copyFrom cX1_copyFrom 2 none) rm_X1_copyFrom (PCw D ca (wC ar ag ca P G ++ xs) sz [.ref (ar r (j + 2)), .ref (ar r2 (j2 + 2))]) (QMw D (wC ar ag ca P G ++ xs) (wC ar ag ca (upL P r (j + 2) L') G ++ xs) sz none) 0 0 (AL (wC ar ag ca P G ++ xs) sz) := by
  have k := m_X1_copyFrom l D ca ar ag P r j ((P r).1 (j + 2), (P r).2 (j + 2)) G xs hr hj r2 j2 hr2 hj2 hne L' h0 sz
  simpa only [upL_self] using k
