-- X6_stand
def f_X6_stand (T : Nat → Int32) (a1 : Int32) (a2 : Int32) : Nat → Int32 :=
  lt (va_up T 0 a1) fun Tv1 =>
  lt (va_up Tv1 1 a2) fun Tv2 =>
  lt (va_up Tv2 5 0) fun Tv3 =>
  lt (va_up Tv3 6 0) fun Tv4 =>
  Tv4
abbrev rm_X6_stand : Room := { frames := 0, cells := 0, slots := 0, locals := 0 }
set_option maxRecDepth 100000 in
set_option maxHeartbeats 4000000 in
theorem m_X6_stand (l : Launch) (D : va_G) (ca : Nat → ClassId) (ar : Nat → Nat → Nat) (ag : Nat → Nat) (P : RowsS) (r i : Nat) (T : Nat → Int32) (G : GlbS) (xs : va_W) (hr : r < 13) (hi : i < 13) (a1 : Int32) (a2 : Int32) (T' : Nat → Int32) (h0 : f_X6_stand T a1 a2 = T') (sz : Nat) : Met l yX6_stand (ws_ yX6_stand cX6_stand 3 none) rm_X6_stand (PCw D ca (wC ar ag ca (upT P r (i + 5) T) G ++ xs) sz [.ref (ar r (i + 5)), .int a1, .int a2]) (QMw D (wC ar ag ca (upT P r (i + 5) T) G ++ xs) (wC ar ag ca (upT P r (i + 5) (T')) G ++ xs) sz none) 0 0 (AL (wC ar ag ca (upT P r (i + 5) T) G ++ xs) sz) := by
  refine met_of (by decide) (Nat.le_of_ble_eq_true rfl) (fun p e s m args below meth c K hr0 X hsz ls hl => ?_)
  have K : MC D ca p s m args meth c cX6_stand 3 RX6 := K
  have hx := K.1
  have hb := K.2.1
  have hl : lv_has ls 3 [(0, .ref (ar r (i + 5))), (1, .int a1), (2, .int a2)] := hl
  generalize hQ : MQ below _ args s 0 0 _ = Q
  unfold f_X6_stand at h0
  suffices Z : ∀ (H : Heap) (locs : List Loc) (X : RW D (wC ar ag ca (upT P r (i + 5) T) G ++ xs) s.heap H locs), W p l e rm_X6_stand s m args below meth c H locs 0 0 Q (F0 m 0 ls []) from Z _ _ X
  intro H locs X
  refine lv_aload_n hx hb dX6_stand_0 rfl (lv_at hl 0 rfl) ?_
  refine lv_iload_n hx hb dX6_stand_1 rfl (lv_at hl 1 rfl) ?_
  obtain ⟨Tv1, eTv1, h0⟩ := lt_out h0
  refine p_tube K X hr hi 0 (by decide) (upT_si eTv1) q98 dX6_stand_2 (fun H locs X => ?_)
  refine lv_aload_n hx hb dX6_stand_5 rfl (lv_at hl 0 rfl) ?_
  refine lv_iload_n hx hb dX6_stand_6 rfl (lv_at hl 2 rfl) ?_
  obtain ⟨Tv2, eTv2, h0⟩ := lt_out h0
  refine p_tube K X hr hi 1 (by decide) (upT_si eTv2) q100 dX6_stand_7 (fun H locs X => ?_)
  refine lv_aload_n hx hb dX6_stand_10 rfl (lv_at hl 0 rfl) ?_
  refine lv_iconst (v := 0) hx hb dX6_stand_11 (by decide) ?_
  obtain ⟨Tv3, eTv3, h0⟩ := lt_out h0
  refine p_tube K X hr hi 5 (by decide) (upT_si eTv3) q109 dX6_stand_12 (fun H locs X => ?_)
  refine lv_aload_n hx hb dX6_stand_15 rfl (lv_at hl 0 rfl) ?_
  refine lv_iconst (v := 0) hx hb dX6_stand_16 (by decide) ?_
  obtain ⟨Tv4, eTv4, h0⟩ := lt_out h0
  refine p_tube K X hr hi 6 (by decide) (upT_si eTv4) q113 dX6_stand_17 (fun H locs X => ?_)
  subst h0
  subst hQ
  exact w_vret K hr0 X wC_fstx hsz dX6_stand_20
theorem mR_X6_stand (l : Launch) (D : va_G) (ca : Nat → ClassId) (ar : Nat → Nat → Nat) (ag : Nat → Nat) (P : RowsS) (r i : Nat) (R : RowS) (G : GlbS) (xs : va_W) (hr : r < 13) (hi : i < 13) (a1 : Int32) (a2 : Int32) (T' : Nat → Int32) (h0 : f_X6_stand (R.1 (i + 5)) a1 a2 = T') (sz : Nat) : Met l yX6_stand (ws_ yX6_stand cX6_stand 3 none) rm_X6_stand (PCw D ca (wC ar ag ca (va_up P r R) G ++ xs) sz [.ref (ar r (i + 5)), .int a1, .int a2]) (QMw D (wC ar ag ca (va_up P r R) G ++ xs) (wC ar ag ca (va_up P r (stT R (i + 5) T')) G ++ xs) sz none) 0 0 (AL (wC ar ag ca (va_up P r R) G ++ xs) sz) := by
  have k := m_X6_stand l D ca ar ag (va_up P r R) r i (R.1 (i + 5)) G xs hr hi a1 a2 T' h0 sz
  simpa only [upT_R, stT_self] using k
theorem mC_X6_stand (l : Launch) (D : va_G) (ca : Nat → ClassId) (ar : Nat → Nat → Nat) (ag : Nat → Nat) (P : RowsS) (r i : Nat) (G : GlbS) (xs : va_W) (hr : r < 13) (hi : i < 13) (a1 : Int32) (a2 : Int32) (T' : Nat → Int32) (h0 : f_X6_stand ((P r).1 (i + 5)) a1 a2 = T') (sz : Nat) : Met l yX6_stand (ws_ yX6_stand cX6_stand 3 none) rm_X6_stand (PCw D ca (wC ar ag ca P G ++ xs) sz [.ref (ar r (i + 5)), .int a1, .int a2]) (QMw D (wC ar ag ca P G ++ xs) (wC ar ag ca (upT P r (i + 5) T') G ++ xs) sz none) 0 0 (AL (wC ar ag ca P G ++ xs) sz) := by
  have k := m_X6_stand l D ca ar ag P r i ((P r).1 (i + 5)) G xs hr hi a1 a2 T' h0 sz
  simpa only [upT_self] using k
-- X6_shape
def f_X6_shape (T : Nat → Int32) (a1 : Int32) (a2 : Int32) (a3 : Int32) : Nat → Int32 :=
  lt (va_up T 2 a1) fun Tv1 =>
  lt (va_up Tv1 3 a2) fun Tv2 =>
  lt (va_up Tv2 4 a3) fun Tv3 =>
  Tv3
abbrev rm_X6_shape : Room := { frames := 0, cells := 0, slots := 0, locals := 0 }
set_option maxRecDepth 100000 in
set_option maxHeartbeats 4000000 in
theorem m_X6_shape (l : Launch) (D : va_G) (ca : Nat → ClassId) (ar : Nat → Nat → Nat) (ag : Nat → Nat) (P : RowsS) (r i : Nat) (T : Nat → Int32) (G : GlbS) (xs : va_W) (hr : r < 13) (hi : i < 13) (a1 : Int32) (a2 : Int32) (a3 : Int32) (T' : Nat → Int32) (h0 : f_X6_shape T a1 a2 a3 = T') (sz : Nat) : Met l yX6_shape (ws_ yX6_shape cX6_shape 4 none) rm_X6_shape (PCw D ca (wC ar ag ca (upT P r (i + 5) T) G ++ xs) sz [.ref (ar r (i + 5)), .int a1, .int a2, .int a3]) (QMw D (wC ar ag ca (upT P r (i + 5) T) G ++ xs) (wC ar ag ca (upT P r (i + 5) (T')) G ++ xs) sz none) 0 0 (AL (wC ar ag ca (upT P r (i + 5) T) G ++ xs) sz) := by
  refine met_of (by decide) (Nat.le_of_ble_eq_true rfl) (fun p e s m args below meth c K hr0 X hsz ls hl => ?_)
  have K : MC D ca p s m args meth c cX6_shape 4 RX6 := K
  have hx := K.1
  have hb := K.2.1
  have hl : lv_has ls 4 [(0, .ref (ar r (i + 5))), (1, .int a1), (2, .int a2), (3, .int a3)] := hl
  generalize hQ : MQ below _ args s 0 0 _ = Q
  unfold f_X6_shape at h0
  suffices Z : ∀ (H : Heap) (locs : List Loc) (X : RW D (wC ar ag ca (upT P r (i + 5) T) G ++ xs) s.heap H locs), W p l e rm_X6_shape s m args below meth c H locs 0 0 Q (F0 m 0 ls []) from Z _ _ X
  intro H locs X
  refine lv_aload_n hx hb dX6_shape_0 rfl (lv_at hl 0 rfl) ?_
  refine lv_iload_n hx hb dX6_shape_1 rfl (lv_at hl 1 rfl) ?_
  obtain ⟨Tv1, eTv1, h0⟩ := lt_out h0
  refine p_tube K X hr hi 2 (by decide) (upT_si eTv1) q102 dX6_shape_2 (fun H locs X => ?_)
  refine lv_aload_n hx hb dX6_shape_5 rfl (lv_at hl 0 rfl) ?_
  refine lv_iload_n hx hb dX6_shape_6 rfl (lv_at hl 2 rfl) ?_
  obtain ⟨Tv2, eTv2, h0⟩ := lt_out h0
  refine p_tube K X hr hi 3 (by decide) (upT_si eTv2) q104 dX6_shape_7 (fun H locs X => ?_)
  refine lv_aload_n hx hb dX6_shape_10 rfl (lv_at hl 0 rfl) ?_
  refine lv_iload_n hx hb dX6_shape_11 rfl (lv_at hl 3 rfl) ?_
  obtain ⟨Tv3, eTv3, h0⟩ := lt_out h0
  refine p_tube K X hr hi 4 (by decide) (upT_si eTv3) q107 dX6_shape_12 (fun H locs X => ?_)
  subst h0
  subst hQ
  exact w_vret K hr0 X wC_fstx hsz dX6_shape_15
theorem mR_X6_shape (l : Launch) (D : va_G) (ca : Nat → ClassId) (ar : Nat → Nat → Nat) (ag : Nat → Nat) (P : RowsS) (r i : Nat) (R : RowS) (G : GlbS) (xs : va_W) (hr : r < 13) (hi : i < 13) (a1 : Int32) (a2 : Int32) (a3 : Int32) (T' : Nat → Int32) (h0 : f_X6_shape (R.1 (i + 5)) a1 a2 a3 = T') (sz : Nat) : Met l yX6_shape (ws_ yX6_shape cX6_shape 4 none) rm_X6_shape (PCw D ca (wC ar ag ca (va_up P r R) G ++ xs) sz [.ref (ar r (i + 5)), .int a1, .int a2, .int a3]) (QMw D (wC ar ag ca (va_up P r R) G ++ xs) (wC ar ag ca (va_up P r (stT R (i + 5) T')) G ++ xs) sz none) 0 0 (AL (wC ar ag ca (va_up P r R) G ++ xs) sz) := by
  have k := m_X6_shape l D ca ar ag (va_up P r R) r i (R.1 (i + 5)) G xs hr hi a1 a2 a3 T' h0 sz
  simpa only [upT_R, stT_self] using k
theorem mC_X6_shape (l : Launch) (D : va_G) (ca : Nat → ClassId) (ar : Nat → Nat → Nat) (ag : Nat → Nat) (P : RowsS) (r i : Nat) (G : GlbS) (xs : va_W) (hr : r < 13) (hi : i < 13) (a1 : Int32) (a2 : Int32) (a3 : Int32) (T' : Nat → Int32) (h0 : f_X6_shape ((P r).1 (i + 5)) a1 a2 a3 = T') (sz : Nat) : Met l yX6_shape (ws_ yX6_shape cX6_shape 4 none) rm_X6_shape (PCw D ca (wC ar ag ca P G ++ xs) sz [.ref (ar r (i + 5)), .int a1, .int a2, .int a3]) (QMw D (wC ar ag ca P G ++ xs) (wC ar ag ca (upT P r (i + 5) T') G ++ xs) sz none) 0 0 (AL (wC ar ag ca P G ++ xs) sz) := by
  have k := m_X6_shape l D ca ar ag P r i ((P r).1 (i + 5)) G xs hr hi a1 a2 a3 T' h0 sz
  simpa only [upT_self] using k
-- X6_copyFrom
def f_X6_copyFrom (T : Nat → Int32) (T2 : Nat → Int32) : Nat → Int32 :=
  lt (f_X6_stand T (T2 0) (T2 1)) fun x1 =>
  lt (x1) fun Tv2 =>
  lt (f_X6_shape Tv2 (T2 2) (T2 3) (T2 4)) fun x3 =>
  lt (x3) fun Tv4 =>
  lt (va_up Tv4 5 (T2 5)) fun Tv5 =>
  lt (va_up Tv5 6 (T2 6)) fun Tv6 =>
  lt (va_up Tv6 7 (T2 7)) fun Tv7 =>
  lt (va_up Tv7 8 (T2 8)) fun Tv8 =>
  lt (va_up Tv8 9 (T2 9)) fun Tv9 =>
  Tv9
abbrev rm_X6_copyFrom : Room := { frames := 1, cells := 0, slots := 0, locals := 23 }
set_option maxRecDepth 100000 in
set_option maxHeartbeats 4000000 in
theorem m_X6_copyFrom (l : Launch) (D : va_G) (ca : Nat → ClassId) (ar : Nat → Nat → Nat) (ag : Nat → Nat) (P : RowsS) (r i : Nat) (T : Nat → Int32) (G : GlbS) (xs : va_W) (hr : r < 13) (hi : i < 13) (r2 i2 : Nat) (hr2 : r2 < 13) (hi2 : i2 < 13) (hne : r2 ≠ r ∨ i2 + 5 ≠ i + 5) (T' : Nat → Int32) (h0 : f_X6_copyFrom T ((P r2).1 (i2 + 5)) = T') (sz : Nat) : Met l yX6_copyFrom (ws_ yX6_copyFrom cX6_copyFrom 2 none) rm_X6_copyFrom (PCw D ca (wC ar ag ca (upT P r (i + 5) T) G ++ xs) sz [.ref (ar r (i + 5)), .ref (ar r2 (i2 + 5))]) (QMw D (wC ar ag ca (upT P r (i + 5) T) G ++ xs) (wC ar ag ca (upT P r (i + 5) (T')) G ++ xs) sz none) 0 0 (AL (wC ar ag ca (upT P r (i + 5) T) G ++ xs) sz) := by
  refine met_of (by decide) (Nat.le_of_ble_eq_true rfl) (fun p e s m args below meth c K hr0 X hsz ls hl => ?_)
  have K : MC D ca p s m args meth c cX6_copyFrom 2 RX6 := K
  have hx := K.1
  have hb := K.2.1
  have hl : lv_has ls 2 [(0, .ref (ar r (i + 5))), (1, .ref (ar r2 (i2 + 5)))] := hl
  generalize hT2 : (P r2).1 (i2 + 5) = T2 at h0
  generalize hQ : MQ below _ args s 0 0 _ = Q
  unfold f_X6_copyFrom at h0
  suffices Z : ∀ (H : Heap) (locs : List Loc) (X : RW D (wC ar ag ca (upT P r (i + 5) T) G ++ xs) s.heap H locs), W p l e rm_X6_copyFrom s m args below meth c H locs 0 0 Q (F0 m 0 ls []) from Z _ _ X
  intro H locs X
  refine lv_aload_n hx hb dX6_copyFrom_0 rfl (lv_at hl 0 rfl) ?_
  refine lv_aload_n hx hb dX6_copyFrom_1 rfl (lv_at hl 1 rfl) ?_
  refine g_tube K X hr2 hi2 ((upT_n hne).trans hT2) 0 (by decide) q98 dX6_copyFrom_2 ?_
  refine lv_aload_n hx hb dX6_copyFrom_5 rfl (lv_at hl 1 rfl) ?_
  refine g_tube K X hr2 hi2 ((upT_n hne).trans hT2) 1 (by decide) q100 dX6_copyFrom_6 ?_
  obtain ⟨x1, ex1, h0⟩ := lt_out h0
  obtain ⟨Tv2, eTv2, h0⟩ := lt_out h0
  have kx1 := m_X6_stand l D ca ar ag P r i T G xs hr hi (T2 0) (T2 1) x1 ex1.symm H.size
  rw [← eTv2] at kx1
  refine w_callV0 K X wC_fstx kx1 hl.1 2 q612 q579 q580 q19 q581 hv_X6_stand ⟨⟨Nat.le_of_ble_eq_true rfl, Nat.le_of_ble_eq_true rfl⟩, rfl, rfl⟩ (pl_tube hr hi) rfl rfl rfl rfl (Nat.le_of_ble_eq_true rfl) dX6_copyFrom_9 ⟨Nat.le_of_ble_eq_true rfl, Nat.le_of_ble_eq_true rfl⟩ rfl (fun H locs X => ?_)
  refine lv_aload_n hx hb dX6_copyFrom_12 rfl (lv_at hl 0 rfl) ?_
  refine lv_aload_n hx hb dX6_copyFrom_13 rfl (lv_at hl 1 rfl) ?_
  refine g_tube K X hr2 hi2 ((upT_n hne).trans hT2) 2 (by decide) q102 dX6_copyFrom_14 ?_
  refine lv_aload_n hx hb dX6_copyFrom_17 rfl (lv_at hl 1 rfl) ?_
  refine g_tube K X hr2 hi2 ((upT_n hne).trans hT2) 3 (by decide) q104 dX6_copyFrom_18 ?_
  refine lv_aload_n hx hb dX6_copyFrom_21 rfl (lv_at hl 1 rfl) ?_
  refine g_tube K X hr2 hi2 ((upT_n hne).trans hT2) 4 (by decide) q107 dX6_copyFrom_22 ?_
  obtain ⟨x3, ex3, h0⟩ := lt_out h0
  obtain ⟨Tv4, eTv4, h0⟩ := lt_out h0
  have kx3 := m_X6_shape l D ca ar ag P r i Tv2 G xs hr hi (T2 2) (T2 3) (T2 4) x3 ex3.symm H.size
  rw [← eTv4] at kx3
  refine w_callV0 K X wC_fstx kx3 hl.1 3 q613 q583 q584 q19 q585 hv_X6_shape ⟨⟨Nat.le_of_ble_eq_true rfl, Nat.le_of_ble_eq_true rfl⟩, rfl, rfl⟩ (pl_tube hr hi) rfl rfl rfl rfl (Nat.le_of_ble_eq_true rfl) dX6_copyFrom_25 ⟨Nat.le_of_ble_eq_true rfl, Nat.le_of_ble_eq_true rfl⟩ rfl (fun H locs X => ?_)
  refine lv_aload_n hx hb dX6_copyFrom_28 rfl (lv_at hl 0 rfl) ?_
  refine lv_aload_n hx hb dX6_copyFrom_29 rfl (lv_at hl 1 rfl) ?_
  refine g_tube K X hr2 hi2 ((upT_n hne).trans hT2) 5 (by decide) q109 dX6_copyFrom_30 ?_
  obtain ⟨Tv5, eTv5, h0⟩ := lt_out h0
  refine p_tube K X hr hi 5 (by decide) (upT_si eTv5) q109 dX6_copyFrom_33 (fun H locs X => ?_)
  refine lv_aload_n hx hb dX6_copyFrom_36 rfl (lv_at hl 0 rfl) ?_
  refine lv_aload_n hx hb dX6_copyFrom_37 rfl (lv_at hl 1 rfl) ?_
  refine g_tube K X hr2 hi2 ((upT_n hne).trans hT2) 6 (by decide) q113 dX6_copyFrom_38 ?_
  obtain ⟨Tv6, eTv6, h0⟩ := lt_out h0
  refine p_tube K X hr hi 6 (by decide) (upT_si eTv6) q113 dX6_copyFrom_41 (fun H locs X => ?_)
  refine lv_aload_n hx hb dX6_copyFrom_44 rfl (lv_at hl 0 rfl) ?_
  refine lv_aload_n hx hb dX6_copyFrom_45 rfl (lv_at hl 1 rfl) ?_
  refine g_tube K X hr2 hi2 ((upT_n hne).trans hT2) 7 (by decide) q116 dX6_copyFrom_46 ?_
  obtain ⟨Tv7, eTv7, h0⟩ := lt_out h0
  refine p_tube K X hr hi 7 (by decide) (upT_si eTv7) q116 dX6_copyFrom_49 (fun H locs X => ?_)
  refine lv_aload_n hx hb dX6_copyFrom_52 rfl (lv_at hl 0 rfl) ?_
  refine lv_aload_n hx hb dX6_copyFrom_53 rfl (lv_at hl 1 rfl) ?_
  refine g_tube K X hr2 hi2 ((upT_n hne).trans hT2) 8 (by decide) q118 dX6_copyFrom_54 ?_
  obtain ⟨Tv8, eTv8, h0⟩ := lt_out h0
  refine p_tube K X hr hi 8 (by decide) (upT_si eTv8) q118 dX6_copyFrom_57 (fun H locs X => ?_)
  refine lv_aload_n hx hb dX6_copyFrom_60 rfl (lv_at hl 0 rfl) ?_
  refine lv_aload_n hx hb dX6_copyFrom_61 rfl (lv_at hl 1 rfl) ?_
  refine g_tube K X hr2 hi2 ((upT_n hne).trans hT2) 9 (by decide) q120 dX6_copyFrom_62 ?_
  obtain ⟨Tv9, eTv9, h0⟩ := lt_out h0
  refine p_tube K X hr hi 9 (by decide) (upT_si eTv9) q120 dX6_copyFrom_65 (fun H locs X => ?_)
  subst h0
  subst hQ
  exact w_vret K hr0 X wC_fstx hsz dX6_copyFrom_68
theorem mR_X6_copyFrom (l : Launch) (D : va_G) (ca : Nat → ClassId) (ar : Nat → Nat → Nat) (ag : Nat → Nat) (P : RowsS) (r i : Nat) (R : RowS) (G : GlbS) (xs : va_W) (hr : r < 13) (hi : i < 13) (r2 i2 : Nat) (hr2 : r2 < 13) (hi2 : i2 < 13) (hne : r2 ≠ r ∨ i2 + 5 ≠ i + 5) (T' : Nat → Int32) (h0 : f_X6_copyFrom (R.1 (i + 5)) (((va_up P r R) r2).1 (i2 + 5)) = T') (sz : Nat) : Met l yX6_copyFrom (ws_ yX6_copyFrom cX6_copyFrom 2 none) rm_X6_copyFrom (PCw D ca (wC ar ag ca (va_up P r R) G ++ xs) sz [.ref (ar r (i + 5)), .ref (ar r2 (i2 + 5))]) (QMw D (wC ar ag ca (va_up P r R) G ++ xs) (wC ar ag ca (va_up P r (stT R (i + 5) T')) G ++ xs) sz none) 0 0 (AL (wC ar ag ca (va_up P r R) G ++ xs) sz) := by
  have k := m_X6_copyFrom l D ca ar ag (va_up P r R) r i (R.1 (i + 5)) G xs hr hi r2 i2 hr2 hi2 hne T' h0 sz
  simpa only [upT_R, stT_self] using k
theorem mC_X6_copyFrom (l : Launch) (D : va_G) (ca : Nat → ClassId) (ar : Nat → Nat → Nat) (ag : Nat → Nat) (P : RowsS) (r i : Nat) (G : GlbS) (xs : va_W) (hr : r < 13) (hi : i < 13) (r2 i2 : Nat) (hr2 : r2 < 13) (hi2 : i2 < 13) (hne : r2 ≠ r ∨ i2 + 5 ≠ i + 5) (T' : Nat → Int32) (h0 : f_X6_copyFrom ((P r).1 (i + 5)) ((P r2).1 (i2 + 5)) = T') (sz : Nat) : Met l yX6_copyFrom (ws_ yX6_copyFrom cX6_copyFrom 2 none) rm_X6_copyFrom (PCw D ca (wC ar ag ca P G ++ xs) sz [.ref (ar r (i + 5)), .ref (ar r2 (i2 + 5))]) (QMw D (wC ar ag ca P G ++ xs) (wC ar ag ca (upT P r (i + 5) T') G ++ xs) sz none) 0 0 (AL (wC ar ag ca P G ++ xs) sz) := by
  have k := m_X6_copyFrom l D ca ar ag P r i ((P r).1 (i + 5)) G xs hr hi r2 i2 hr2 hi2 hne T' h0 sz
  simpa only [upT_self] using k
-- X6_fullColumn
def f_X6_fullColumn (T : Nat → Int32) : Int32 :=
  (100 * (T 4))
abbrev rm_X6_fullColumn : Room := { frames := 0, cells := 0, slots := 0, locals := 0 }
set_option maxRecDepth 100000 in
set_option maxHeartbeats 4000000 in
theorem m_X6_fullColumn (l : Launch) (D : va_G) (ca : Nat → ClassId) (ar : Nat → Nat → Nat) (ag : Nat → Nat) (P : RowsS) (r i : Nat) (T : Nat → Int32) (G : GlbS) (xs : va_W) (hr : r < 13) (hi : i < 13) (res : Int32) (h0 : f_X6_fullColumn T = res) (sz : Nat) : Met l yX6_fullColumn (ws_ yX6_fullColumn cX6_fullColumn 1 (some .int)) rm_X6_fullColumn (PCw D ca (wC ar ag ca (upT P r (i + 5) T) G ++ xs) sz [.ref (ar r (i + 5))]) (QMw D (wC ar ag ca (upT P r (i + 5) T) G ++ xs) (wC ar ag ca (upT P r (i + 5) T) G ++ xs) sz (some (.int res))) 0 0 (AL (wC ar ag ca (upT P r (i + 5) T) G ++ xs) sz) := by
  refine met_of (by decide) (Nat.le_of_ble_eq_true rfl) (fun p e s m args below meth c K hr0 X hsz ls hl => ?_)
  have K : MC D ca p s m args meth c cX6_fullColumn 1 RX6 := K
  have hx := K.1
  have hb := K.2.1
  have hl : lv_has ls 1 [(0, .ref (ar r (i + 5)))] := hl
  generalize hQ : MQ below _ args s 0 0 _ = Q
  unfold f_X6_fullColumn at h0
  suffices Z : ∀ (H : Heap) (locs : List Loc) (X : RW D (wC ar ag ca (upT P r (i + 5) T) G ++ xs) s.heap H locs), W p l e rm_X6_fullColumn s m args below meth c H locs 0 0 Q (F0 m 0 ls []) from Z _ _ X
  intro H locs X
  refine lv_bipush (v := 100) hx hb dX6_fullColumn_0 (by decide) ?_
  refine lv_aload_n hx hb dX6_fullColumn_2 rfl (lv_at hl 0 rfl) ?_
  refine g_tube K X hr hi upT_1 4 (by decide) q107 dX6_fullColumn_3 ?_
  refine lv_imul hx hb dX6_fullColumn_6 ?_
  subst h0
  subst hQ
  exact w_iret K hr0 X wC_fstx hsz dX6_fullColumn_7
theorem mR_X6_fullColumn (l : Launch) (D : va_G) (ca : Nat → ClassId) (ar : Nat → Nat → Nat) (ag : Nat → Nat) (P : RowsS) (r i : Nat) (R : RowS) (G : GlbS) (xs : va_W) (hr : r < 13) (hi : i < 13) (res : Int32) (h0 : f_X6_fullColumn (R.1 (i + 5)) = res) (sz : Nat) : Met l yX6_fullColumn (ws_ yX6_fullColumn cX6_fullColumn 1 (some .int)) rm_X6_fullColumn (PCw D ca (wC ar ag ca (va_up P r R) G ++ xs) sz [.ref (ar r (i + 5))]) (QMw D (wC ar ag ca (va_up P r R) G ++ xs) (wC ar ag ca (va_up P r R) G ++ xs) sz (some (.int res))) 0 0 (AL (wC ar ag ca (va_up P r R) G ++ xs) sz) := by
  have k := m_X6_fullColumn l D ca ar ag (va_up P r R) r i (R.1 (i + 5)) G xs hr hi  res h0 sz
  simpa only [upT_R, stT_self] using k
theorem mC_X6_fullColumn (l : Launch) (D : va_G) (ca : Nat → ClassId) (ar : Nat → Nat → Nat) (ag : Nat → Nat) (P : RowsS) (r i : Nat) (G : GlbS) (xs : va_W) (hr : r < 13) (hi : i < 13) (res : Int32) (h0 : f_X6_fullColumn ((P r).1 (i + 5)) = res) (sz : Nat) : Met l yX6_fullColumn (ws_ yX6_fullColumn cX6_fullColumn 1 (some .int)) rm_X6_fullColumn (PCw D ca (wC ar ag ca P G ++ xs) sz [.ref (ar r (i + 5))]) (QMw D (wC ar ag ca P G ++ xs) (wC ar ag ca P G ++ xs) sz (some (.int res))) 0 0 (AL (wC ar ag ca P G ++ xs) sz) := by
  have k := m_X6_fullColumn l D ca ar ag P r i ((P r).1 (i + 5)) G xs hr hi  res h0 sz
  simpa only [upT_self] using k
-- X6_fullVolume
def f_X6_fullVolume (T : Nat → Int32) : Int64 :=
  lt (f_X6_fullColumn T) fun x1 =>
  ((x1.toInt64 * ((T 2).toInt64)) * ((T 2).toInt64))
abbrev rm_X6_fullVolume : Room := { frames := 1, cells := 0, slots := 0, locals := 20 }
set_option maxRecDepth 100000 in
set_option maxHeartbeats 4000000 in
theorem m_X6_fullVolume (l : Launch) (D : va_G) (ca : Nat → ClassId) (ar : Nat → Nat → Nat) (ag : Nat → Nat) (P : RowsS) (r i : Nat) (T : Nat → Int32) (G : GlbS) (xs : va_W) (hr : r < 13) (hi : i < 13) (res : Int64) (h0 : f_X6_fullVolume T = res) (sz : Nat) : Met l yX6_fullVolume (ws_ yX6_fullVolume cX6_fullVolume 1 (some .long)) rm_X6_fullVolume (PCw D ca (wC ar ag ca (upT P r (i + 5) T) G ++ xs) sz [.ref (ar r (i + 5))]) (QMw D (wC ar ag ca (upT P r (i + 5) T) G ++ xs) (wC ar ag ca (upT P r (i + 5) T) G ++ xs) sz (some (.long res))) 0 0 (AL (wC ar ag ca (upT P r (i + 5) T) G ++ xs) sz) := by
  refine met_of (by decide) (Nat.le_of_ble_eq_true rfl) (fun p e s m args below meth c K hr0 X hsz ls hl => ?_)
  have K : MC D ca p s m args meth c cX6_fullVolume 1 RX6 := K
  have hx := K.1
  have hb := K.2.1
  have hl : lv_has ls 1 [(0, .ref (ar r (i + 5)))] := hl
  generalize hQ : MQ below _ args s 0 0 _ = Q
  unfold f_X6_fullVolume at h0
  suffices Z : ∀ (H : Heap) (locs : List Loc) (X : RW D (wC ar ag ca (upT P r (i + 5) T) G ++ xs) s.heap H locs), W p l e rm_X6_fullVolume s m args below meth c H locs 0 0 Q (F0 m 0 ls []) from Z _ _ X
  intro H locs X
  refine lv_aload_n hx hb dX6_fullVolume_0 rfl (lv_at hl 0 rfl) ?_
  obtain ⟨x1, ex1, h0⟩ := lt_out h0
  have kx1 := m_X6_fullColumn l D ca ar ag P r i T G xs hr hi x1 ex1.symm H.size
  refine w_callV0 K X wC_fstx kx1 hl.1 0 q635 q636 q637 q19 q638 hv_X6_fullColumn ⟨⟨Nat.le_of_ble_eq_true rfl, Nat.le_of_ble_eq_true rfl⟩, rfl, rfl⟩ (pl_tube hr hi) rfl rfl rfl rfl (Nat.le_of_ble_eq_true rfl) dX6_fullVolume_1 ⟨Nat.le_of_ble_eq_true rfl, Nat.le_of_ble_eq_true rfl⟩ rfl (fun H locs X => ?_)
  refine lv_i2l hx hb dX6_fullVolume_4 rfl ?_
  refine lv_aload_n hx hb dX6_fullVolume_5 rfl (lv_at hl 0 rfl) ?_
  refine g_tube K X hr hi upT_1 2 (by decide) q102 dX6_fullVolume_6 ?_
  refine lv_i2l hx hb dX6_fullVolume_9 rfl ?_
  refine lv_lmul hx hb dX6_fullVolume_10 ?_
  refine lv_aload_n hx hb dX6_fullVolume_11 rfl (lv_at hl 0 rfl) ?_
  refine g_tube K X hr hi upT_1 2 (by decide) q102 dX6_fullVolume_12 ?_
  refine lv_i2l hx hb dX6_fullVolume_15 rfl ?_
  refine lv_lmul hx hb dX6_fullVolume_16 ?_
  subst h0
  subst hQ
  exact w_lret K hr0 X wC_fstx hsz dX6_fullVolume_17
theorem mR_X6_fullVolume (l : Launch) (D : va_G) (ca : Nat → ClassId) (ar : Nat → Nat → Nat) (ag : Nat → Nat) (P : RowsS) (r i : Nat) (R : RowS) (G : GlbS) (xs : va_W) (hr : r < 13) (hi : i < 13) (res : Int64) (h0 : f_X6_fullVolume (R.1 (i + 5)) = res) (sz : Nat) : Met l yX6_fullVolume (ws_ yX6_fullVolume cX6_fullVolume 1 (some .long)) rm_X6_fullVolume (PCw D ca (wC ar ag ca (va_up P r R) G ++ xs) sz [.ref (ar r (i + 5))]) (QMw D (wC ar ag ca (va_up P r R) G ++ xs) (wC ar ag ca (va_up P r R) G ++ xs) sz (some (.long res))) 0 0 (AL (wC ar ag ca (va_up P r R) G ++ xs) sz) := by
  have k := m_X6_fullVolume l D ca ar ag (va_up P r R) r i (R.1 (i + 5)) G xs hr hi  res h0 sz
  simpa only [upT_R, stT_self] using k
theorem mC_X6_fullVolume (l : Launch) (D : va_G) (ca : Nat → ClassId) (ar : Nat → Nat → Nat) (ag : Nat → Nat) (P : RowsS) (r i : Nat) (G : GlbS) (xs : va_W) (hr : r < 13) (hi : i < 13) (res : Int64) (h0 : f_X6_fullVolume ((P r).1 (i + 5)) = res) (sz : Nat) : Met l yX6_fullVolume (ws_ yX6_fullVolume cX6_fullVolume 1 (some .long)) rm_X6_fullVolume (PCw D ca (wC ar ag ca P G ++ xs) sz [.ref (ar r (i + 5))]) (QMw D (wC ar ag ca P G ++ xs) (wC ar ag ca P G ++ xs) sz (some (.long res))) 0 0 (AL (wC ar ag ca P G ++ xs) sz) := by
  have k := m_X6_fullVolume l D ca ar ag P r i ((P r).1 (i + 5)) G xs hr hi  res h0 sz
  simpa only [upT_self] using k
-- X6_runAt
def f_X6_runAt (T : Nat → Int32) (a1 : Int64) : Int64 :=
  if (T 3) = 0 then
    0
  else
    ((((a1 + ((T 7).toInt64)) + ((T 8).toInt64)) * 1000) / ((T 3).toInt64))
abbrev rm_X6_runAt : Room := { frames := 0, cells := 0, slots := 0, locals := 0 }
set_option maxRecDepth 100000 in
set_option maxHeartbeats 4000000 in
theorem m_X6_runAt (l : Launch) (D : va_G) (ca : Nat → ClassId) (ar : Nat → Nat → Nat) (ag : Nat → Nat) (P : RowsS) (r i : Nat) (T : Nat → Int32) (G : GlbS) (xs : va_W) (hr : r < 13) (hi : i < 13) (a1 : Int64) (res : Int64) (h0 : f_X6_runAt T a1 = res) (sz : Nat) : Met l yX6_runAt (ws_ yX6_runAt cX6_runAt 3 (some .long)) rm_X6_runAt (PCw D ca (wC ar ag ca (upT P r (i + 5) T) G ++ xs) sz [.ref (ar r (i + 5)), .long a1]) (QMw D (wC ar ag ca (upT P r (i + 5) T) G ++ xs) (wC ar ag ca (upT P r (i + 5) T) G ++ xs) sz (some (.long res))) 0 0 (AL (wC ar ag ca (upT P r (i + 5) T) G ++ xs) sz) := by
  refine met_of (by decide) (Nat.le_of_ble_eq_true rfl) (fun p e s m args below meth c K hr0 X hsz ls hl => ?_)
  have K : MC D ca p s m args meth c cX6_runAt 3 RX6 := K
  have hx := K.1
  have hb := K.2.1
  have hl : lv_has ls 3 [(0, .ref (ar r (i + 5))), (1, .long a1)] := hl
  generalize hQ : MQ below _ args s 0 0 _ = Q
  unfold f_X6_runAt at h0
  suffices Z : ∀ (H : Heap) (locs : List Loc) (X : RW D (wC ar ag ca (upT P r (i + 5) T) G ++ xs) s.heap H locs), W p l e rm_X6_runAt s m args below meth c H locs 0 0 Q (F0 m 0 ls []) from Z _ _ X
  intro H locs X
  refine lv_aload_n hx hb dX6_runAt_0 rfl (lv_at hl 0 rfl) ?_
  refine g_tube K X hr hi upT_1 3 (by decide) q104 dX6_runAt_1 ?_
  refine lv_if_ne (tgt := 11) hx hb dX6_runAt_4 (by decide) (fun c1 => ?_) (fun c1 => ?_)
  · have h0 := if_f c1 h0
    refine lv_lload_n hx hb dX6_runAt_11 rfl (lv_at hl 1 rfl) ?_
    refine lv_aload_n hx hb dX6_runAt_12 rfl (lv_at hl 0 rfl) ?_
    refine g_tube K X hr hi upT_1 7 (by decide) q116 dX6_runAt_13 ?_
    refine lv_i2l hx hb dX6_runAt_16 rfl ?_
    refine lv_ladd hx hb dX6_runAt_17 ?_
    refine lv_aload_n hx hb dX6_runAt_18 rfl (lv_at hl 0 rfl) ?_
    refine g_tube K X hr hi upT_1 8 (by decide) q118 dX6_runAt_19 ?_
    refine lv_i2l hx hb dX6_runAt_22 rfl ?_
    refine lv_ladd hx hb dX6_runAt_23 ?_
    refine lv_ldc2 hx hb K.2.2.2.1 (K.2.2.2.2.1 _ q655) dX6_runAt_24 ?_
    refine lv_lmul hx hb dX6_runAt_27 ?_
    refine lv_aload_n hx hb dX6_runAt_28 rfl (lv_at hl 0 rfl) ?_
    refine g_tube K X hr hi upT_1 3 (by decide) q104 dX6_runAt_29 ?_
    refine lv_i2l hx hb dX6_runAt_32 rfl ?_
    refine lv_ldiv hx hb dX6_runAt_33 (l_ne c1) ?_
    subst h0
    subst hQ
    exact w_lret K hr0 X wC_fstx hsz dX6_runAt_34
  · have h0 := if_t c1 h0
    refine lv_lconst (v := 0) hx hb dX6_runAt_7 (by decide) ?_
    refine lv_goto (tgt := 34) hx hb dX6_runAt_8 (by decide) ?_
    subst h0
    subst hQ
    exact w_lret K hr0 X wC_fstx hsz dX6_runAt_34
theorem mR_X6_runAt (l : Launch) (D : va_G) (ca : Nat → ClassId) (ar : Nat → Nat → Nat) (ag : Nat → Nat) (P : RowsS) (r i : Nat) (R : RowS) (G : GlbS) (xs : va_W) (hr : r < 13) (hi : i < 13) (a1 : Int64) (res : Int64) (h0 : f_X6_runAt (R.1 (i + 5)) a1 = res) (sz : Nat) : Met l yX6_runAt (ws_ yX6_runAt cX6_runAt 3 (some .long)) rm_X6_runAt (PCw D ca (wC ar ag ca (va_up P r R) G ++ xs) sz [.ref (ar r (i + 5)), .long a1]) (QMw D (wC ar ag ca (va_up P r R) G ++ xs) (wC ar ag ca (va_up P r R) G ++ xs) sz (some (.long res))) 0 0 (AL (wC ar ag ca (va_up P r R) G ++ xs) sz) := by
  have k := m_X6_runAt l D ca ar ag (va_up P r R) r i (R.1 (i + 5)) G xs hr hi a1 res h0 sz
  simpa only [upT_R, stT_self] using k
theorem mC_X6_runAt (l : Launch) (D : va_G) (ca : Nat → ClassId) (ar : Nat → Nat → Nat) (ag : Nat → Nat) (P : RowsS) (r i : Nat) (G : GlbS) (xs : va_W) (hr : r < 13) (hi : i < 13) (a1 : Int64) (res : Int64) (h0 : f_X6_runAt ((P r).1 (i + 5)) a1 = res) (sz : Nat) : Met l yX6_runAt (ws_ yX6_runAt cX6_runAt 3 (some .long)) rm_X6_runAt (PCw D ca (wC ar ag ca P G ++ xs) sz [.ref (ar r (i + 5)), .long a1]) (QMw D (wC ar ag ca P G ++ xs) (wC ar ag ca P G ++ xs) sz (some (.long res))) 0 0 (AL (wC ar ag ca P G ++ xs) sz) := by
  have k := m_X6_runAt l D ca ar ag P r i ((P r).1 (i + 5)) G xs hr hi a1 res h0 sz
  simpa only [upT_self] using k
-- X6_columnAt
def f_X6_columnAt (T : Nat → Int32) (a1 : Int64) : Int64 :=
  if (T 6) = 0 then
    lt (f_X6_fullColumn T) fun x2 =>
    lt (f_X6_runAt T a1) fun x3 =>
    (lmax 0 (lmin x2.toInt64 x3))
  else
    0
abbrev rm_X6_columnAt : Room := { frames := 1, cells := 0, slots := 0, locals := 40 }
set_option maxRecDepth 100000 in
set_option maxHeartbeats 4000000 in
theorem m_X6_columnAt (l : Launch) (D : va_G) (ca : Nat → ClassId) (ar : Nat → Nat → Nat) (ag : Nat → Nat) (P : RowsS) (r i : Nat) (T : Nat → Int32) (G : GlbS) (xs : va_W) (hr : r < 13) (hi : i < 13) (a1 : Int64) (res : Int64) (h0 : f_X6_columnAt T a1 = res) (sz : Nat) : Met l yX6_columnAt (ws_ yX6_columnAt cX6_columnAt 3 (some .long)) rm_X6_columnAt (PCw D ca (wC ar ag ca (upT P r (i + 5) T) G ++ xs) sz [.ref (ar r (i + 5)), .long a1]) (QMw D (wC ar ag ca (upT P r (i + 5) T) G ++ xs) (wC ar ag ca (upT P r (i + 5) T) G ++ xs) sz (some (.long res))) 0 0 (AL (wC ar ag ca (upT P r (i + 5) T) G ++ xs) sz) := by
  refine met_of (by decide) (Nat.le_of_ble_eq_true rfl) (fun p e s m args below meth c K hr0 X hsz ls hl => ?_)
  have K : MC D ca p s m args meth c cX6_columnAt 3 RX6 := K
  have hx := K.1
  have hb := K.2.1
  have hl : lv_has ls 3 [(0, .ref (ar r (i + 5))), (1, .long a1)] := hl
  generalize hQ : MQ below _ args s 0 0 _ = Q
  unfold f_X6_columnAt at h0
  suffices Z : ∀ (H : Heap) (locs : List Loc) (X : RW D (wC ar ag ca (upT P r (i + 5) T) G ++ xs) s.heap H locs), W p l e rm_X6_columnAt s m args below meth c H locs 0 0 Q (F0 m 0 ls []) from Z _ _ X
  intro H locs X
  refine lv_aload_n hx hb dX6_columnAt_0 rfl (lv_at hl 0 rfl) ?_
  refine g_tube K X hr hi upT_1 6 (by decide) q113 dX6_columnAt_1 ?_
  refine lv_if_ne (tgt := 27) hx hb dX6_columnAt_4 (by decide) (fun c1 => ?_) (fun c1 => ?_)
  · have h0 := if_f c1 h0
    refine lv_lconst (v := 0) hx hb dX6_columnAt_27 (by decide) ?_
    subst h0
    subst hQ
    exact w_lret K hr0 X wC_fstx hsz dX6_columnAt_28
  · have h0 := if_t c1 h0
    refine lv_lconst (v := 0) hx hb dX6_columnAt_7 (by decide) ?_
    refine lv_aload_n hx hb dX6_columnAt_8 rfl (lv_at hl 0 rfl) ?_
    obtain ⟨x2, ex2, h0⟩ := lt_out h0
    have kx2 := m_X6_fullColumn l D ca ar ag P r i T G xs hr hi x2 ex2.symm H.size
    refine w_callV0 K X wC_fstx kx2 hl.1 0 q635 q636 q637 q19 q638 hv_X6_fullColumn ⟨⟨Nat.le_of_ble_eq_true rfl, Nat.le_of_ble_eq_true rfl⟩, rfl, rfl⟩ (pl_tube hr hi) rfl rfl rfl rfl (Nat.le_of_ble_eq_true rfl) dX6_columnAt_9 ⟨Nat.le_of_ble_eq_true rfl, Nat.le_of_ble_eq_true rfl⟩ rfl (fun H locs X => ?_)
    refine lv_i2l hx hb dX6_columnAt_12 rfl ?_
    refine lv_aload_n hx hb dX6_columnAt_13 rfl (lv_at hl 0 rfl) ?_
    refine lv_lload_n hx hb dX6_columnAt_14 rfl (lv_at hl 1 rfl) ?_
    obtain ⟨x3, ex3, h0⟩ := lt_out h0
    have kx3 := m_X6_runAt l D ca ar ag P r i T G xs hr hi a1 x3 ex3.symm H.size
    refine w_callV0 K X wC_fstx kx3 hl.1 1 q651 q652 q653 q19 q654 hv_X6_runAt ⟨⟨Nat.le_of_ble_eq_true rfl, Nat.le_of_ble_eq_true rfl⟩, rfl, rfl⟩ (pl_tube hr hi) rfl rfl rfl rfl (Nat.le_of_ble_eq_true rfl) dX6_columnAt_15 ⟨Nat.le_of_ble_eq_true rfl, Nat.le_of_ble_eq_true rfl⟩ rfl (fun H locs X => ?_)
    refine w_mminl K hl.1 q656 q657 q32 q658 (Nat.le_of_ble_eq_true rfl) (Nat.le_of_ble_eq_true rfl) (Nat.le_of_ble_eq_true rfl) (Nat.le_of_ble_eq_true rfl) dX6_columnAt_18 ?_
    refine w_mmaxl K hl.1 q659 q660 q32 q661 (Nat.le_of_ble_eq_true rfl) (Nat.le_of_ble_eq_true rfl) (Nat.le_of_ble_eq_true rfl) (Nat.le_of_ble_eq_true rfl) dX6_columnAt_21 ?_
    refine lv_goto (tgt := 28) hx hb dX6_columnAt_24 (by decide) ?_
    subst h0
    subst hQ
    exact w_lret K hr0 X wC_fstx hsz dX6_columnAt_28
theorem mR_X6_columnAt (l : Launch) (D : va_G) (ca : Nat → ClassId) (ar : Nat → Nat → Nat) (ag : Nat → Nat) (P : RowsS) (r i : Nat) (R : RowS) (G : GlbS) (xs : va_W) (hr : r < 13) (hi : i < 13) (a1 : Int64) (res : Int64) (h0 : f_X6_columnAt (R.1 (i + 5)) a1 = res) (sz : Nat) : Met l yX6_columnAt (ws_ yX6_columnAt cX6_columnAt 3 (some .long)) rm_X6_columnAt (PCw D ca (wC ar ag ca (va_up P r R) G ++ xs) sz [.ref (ar r (i + 5)), .long a1]) (QMw D (wC ar ag ca (va_up P r R) G ++ xs) (wC ar ag ca (va_up P r R) G ++ xs) sz (some (.long res))) 0 0 (AL (wC ar ag ca (va_up P r R) G ++ xs) sz) := by
  have k := m_X6_columnAt l D ca ar ag (va_up P r R) r i (R.1 (i + 5)) G xs hr hi a1 res h0 sz
  simpa only [upT_R, stT_self] using k
theorem mC_X6_columnAt (l : Launch) (D : va_G) (ca : Nat → ClassId) (ar : Nat → Nat → Nat) (ag : Nat → Nat) (P : RowsS) (r i : Nat) (G : GlbS) (xs : va_W) (hr : r < 13) (hi : i < 13) (a1 : Int64) (res : Int64) (h0 : f_X6_columnAt ((P r).1 (i + 5)) a1 = res) (sz : Nat) : Met l yX6_columnAt (ws_ yX6_columnAt cX6_columnAt 3 (some .long)) rm_X6_columnAt (PCw D ca (wC ar ag ca P G ++ xs) sz [.ref (ar r (i + 5)), .long a1]) (QMw D (wC ar ag ca P G ++ xs) (wC ar ag ca P G ++ xs) sz (some (.long res))) 0 0 (AL (wC ar ag ca P G ++ xs) sz) := by
  have k := m_X6_columnAt l D ca ar ag P r i ((P r).1 (i + 5)) G xs hr hi a1 res h0 sz
  simpa only [upT_self] using k
-- X6_shownReading
def f_X6_shownReading (T : Nat → Int32) : Int32 :=
  (((T 9) / 10) + (T 5))
abbrev rm_X6_shownReading : Room := { frames := 0, cells := 0, slots := 0, locals := 0 }
set_option maxRecDepth 100000 in
set_option maxHeartbeats 4000000 in
theorem m_X6_shownReading (l : Launch) (D : va_G) (ca : Nat → ClassId) (ar : Nat → Nat → Nat) (ag : Nat → Nat) (P : RowsS) (r i : Nat) (T : Nat → Int32) (G : GlbS) (xs : va_W) (hr : r < 13) (hi : i < 13) (res : Int32) (h0 : f_X6_shownReading T = res) (sz : Nat) : Met l yX6_shownReading (ws_ yX6_shownReading cX6_shownReading 1 (some .int)) rm_X6_shownReading (PCw D ca (wC ar ag ca (upT P r (i + 5) T) G ++ xs) sz [.ref (ar r (i + 5))]) (QMw D (wC ar ag ca (upT P r (i + 5) T) G ++ xs) (wC ar ag ca (upT P r (i + 5) T) G ++ xs) sz (some (.int res))) 0 0 (AL (wC ar ag ca (upT P r (i + 5) T) G ++ xs) sz) := by
  refine met_of (by decide) (Nat.le_of_ble_eq_true rfl) (fun p e s m args below meth c K hr0 X hsz ls hl => ?_)
  have K : MC D ca p s m args meth c cX6_shownReading 1 RX6 := K
  have hx := K.1
  have hb := K.2.1
  have hl : lv_has ls 1 [(0, .ref (ar r (i + 5)))] := hl
  generalize hQ : MQ below _ args s 0 0 _ = Q
  unfold f_X6_shownReading at h0
  suffices Z : ∀ (H : Heap) (locs : List Loc) (X : RW D (wC ar ag ca (upT P r (i + 5) T) G ++ xs) s.heap H locs), W p l e rm_X6_shownReading s m args below meth c H locs 0 0 Q (F0 m 0 ls []) from Z _ _ X
  intro H locs X
  refine lv_aload_n hx hb dX6_shownReading_0 rfl (lv_at hl 0 rfl) ?_
  refine g_tube K X hr hi upT_1 9 (by decide) q120 dX6_shownReading_1 ?_
  refine lv_bipush (v := 10) hx hb dX6_shownReading_4 (by decide) ?_
  refine lv_idiv hx hb dX6_shownReading_6 (by decide) ?_
  refine lv_aload_n hx hb dX6_shownReading_7 rfl (lv_at hl 0 rfl) ?_
  refine g_tube K X hr hi upT_1 5 (by decide) q109 dX6_shownReading_8 ?_
  refine lv_iadd hx hb dX6_shownReading_11 ?_
  subst h0
  subst hQ
  exact w_iret K hr0 X wC_fstx hsz dX6_shownReading_12
theorem mR_X6_shownReading (l : Launch) (D : va_G) (ca : Nat → ClassId) (ar : Nat → Nat → Nat) (ag : Nat → Nat) (P : RowsS) (r i : Nat) (R : RowS) (G : GlbS) (xs : va_W) (hr : r < 13) (hi : i < 13) (res : Int32) (h0 : f_X6_shownReading (R.1 (i + 5)) = res) (sz : Nat) : Met l yX6_shownReading (ws_ yX6_shownReading cX6_shownReading 1 (some .int)) rm_X6_shownReading (PCw D ca (wC ar ag ca (va_up P r R) G ++ xs) sz [.ref (ar r (i + 5))]) (QMw D (wC ar ag ca (va_up P r R) G ++ xs) (wC ar ag ca (va_up P r R) G ++ xs) sz (some (.int res))) 0 0 (AL (wC ar ag ca (va_up P r R) G ++ xs) sz) := by
  have k := m_X6_shownReading l D ca ar ag (va_up P r R) r i (R.1 (i + 5)) G xs hr hi  res h0 sz
  simpa only [upT_R, stT_self] using k
theorem mC_X6_shownReading (l : Launch) (D : va_G) (ca : Nat → ClassId) (ar : Nat → Nat → Nat) (ag : Nat → Nat) (P : RowsS) (r i : Nat) (G : GlbS) (xs : va_W) (hr : r < 13) (hi : i < 13) (res : Int32) (h0 : f_X6_shownReading ((P r).1 (i + 5)) = res) (sz : Nat) : Met l yX6_shownReading (ws_ yX6_shownReading cX6_shownReading 1 (some .int)) rm_X6_shownReading (PCw D ca (wC ar ag ca P G ++ xs) sz [.ref (ar r (i + 5))]) (QMw D (wC ar ag ca P G ++ xs) (wC ar ag ca P G ++ xs) sz (some (.int res))) 0 0 (AL (wC ar ag ca P G ++ xs) sz) := by
  have k := m_X6_shownReading l D ca ar ag P r i ((P r).1 (i + 5)) G xs hr hi  res h0 sz
  simpa only [upT_self] using k
