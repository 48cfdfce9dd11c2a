-- X4_readLeg
def f_X4_readLeg (n : Nat) (R : RowS) (G : GlbS) : Option (RowS × GlbS) :=
  ob (f_X5_advance n G) fun x1 =>
  lt (x1) fun Gv2 =>
  ob (f_X5_takeNumber n Gv2 0 1) fun x3 =>
  lt (x3.2) fun Gv4 =>
  lt (f_X3_legAt R x3.1) fun x5 =>
  lt (x5) fun j6 =>
  ob (f_X5_takeNumber n Gv4 100 20000) fun x7 =>
  lt (x7.2) fun Gv8 =>
  lt (x7.1) fun x9 =>
  ob (f_X5_takeNumber n Gv8 100 99999) fun x10 =>
  lt (x10.2) fun Gv11 =>
  lt (x10.1) fun x12 =>
  ob (f_X5_takeSigned n Gv11) fun x13 =>
  lt (x13.2) fun Gv14 =>
  lt (f_X1_liquid (R.1 (j6 + 2), R.2 (j6 + 2)) x9 x12 x13.1) fun x15 =>
  lt (stL R (j6 + 2) x15) fun Rv16 =>
  some (Rv16, Gv14)
abbrev rm_X4_readLeg : Room := { frames := 4, cells := 0, slots := 0, locals := 86 }
set_option maxRecDepth 100000 in
set_option maxHeartbeats 4000000 in
theorem m_X4_readLeg (l : Launch) (D : va_G) (ca : Nat → ClassId) (ar : Nat → Nat → Nat) (ag : Nat → Nat) (n : Nat) (P : RowsS) (r : Nat) (R : RowS) (G : GlbS) (xs : va_W) (hr : r < 13) (gq gj : Nat) (hg : xs[gj]? = some (gq, .inr (6, [.ref (ag 3), .ref (ar r 0)]))) (R' : RowS) (G' : GlbS) (h0 : f_X4_readLeg n R G = some (R', G')) (sz : Nat) : Met l yX4_readLeg (ws_ yX4_readLeg cX4_readLeg 4 none) rm_X4_readLeg (PCw D ca (wC ar ag ca (va_up P r R) G ++ xs) sz [.ref gq]) (QMw D (wC ar ag ca (va_up P r R) G ++ xs) (wC ar ag ca (va_up P r (R')) (G') ++ xs) sz none) 0 0 (AL (wC ar ag ca (va_up P r R) G ++ xs) sz) := by
  refine met_of (by decide) (Nat.le_of_ble_eq_true rfl) (fun p e s m args below meth c K hr0 X hsz ls hl => ?_)
  have K : MC D ca p s m args meth c cX4_readLeg 4 RX4 := K
  have hx := K.1
  have hb := K.2.1
  have hl : lv_has ls 4 [(0, .ref gq)] := hl
  generalize hQ : MQ below _ args s 0 0 _ = Q
  unfold f_X4_readLeg at h0
  suffices Z : ∀ (H : Heap) (locs : List Loc) (X : RW D (wC ar ag ca (va_up P r R) G ++ xs) s.heap H locs), W p l e rm_X4_readLeg s m args below meth c H locs 0 0 Q (F0 m 0 ls []) from Z _ _ X
  intro H locs X
  refine lv_aload_n hx hb dX4_readLeg_0 rfl (lv_at hl 0 rfl) ?_
  refine g_gram4 K X hg 0 (by decide) rfl q499 dX4_readLeg_1 ?_
  obtain ⟨x1, ex1, h0⟩ := ob_out h0
  obtain ⟨Gv2, eGv2, h0⟩ := lt_out h0
  have kx1 := m_X5_advance l D ca ar ag n (va_up P r R) G xs x1 ex1 H.size
  rw [← eGv2] at kx1
  refine w_callV0 K X wC_fstx kx1 hl.1 0 q553 q479 q480 q21 q481 hv_X5_advance ⟨⟨Nat.le_of_ble_eq_true rfl, Nat.le_of_ble_eq_true rfl⟩, rfl, rfl⟩ (pl_glb (k := 3) (by decide)) rfl rfl rfl rfl (Nat.le_of_ble_eq_true rfl) dX4_readLeg_4 ⟨Nat.le_of_ble_eq_true rfl, Nat.le_of_ble_eq_true rfl⟩ rfl (fun H locs X => ?_)
  refine lv_aload_n hx hb dX4_readLeg_7 rfl (lv_at hl 0 rfl) ?_
  refine g_gram4 K X hg 1 (by decide) rfl q500 dX4_readLeg_8 ?_
  refine lv_aload_n hx hb dX4_readLeg_11 rfl (lv_at hl 0 rfl) ?_
  refine g_gram4 K X hg 0 (by decide) rfl q499 dX4_readLeg_12 ?_
  refine lv_iconst (v := 0) hx hb dX4_readLeg_15 (by decide) ?_
  refine lv_iconst (v := 1) hx hb dX4_readLeg_16 (by decide) ?_
  obtain ⟨x3, ex3, h0⟩ := ob_out h0
  obtain ⟨Gv4, eGv4, h0⟩ := lt_out h0
  have kx3 := m_X5_takeNumber l D ca ar ag n (va_up P r R) Gv2 xs 0 1 x3.1 x3.2 ex3 H.size
  rw [← eGv4] at kx3
  refine w_callV0 K X wC_fstx kx3 hl.1 2 q525 q526 q527 q21 q528 hv_X5_takeNumber ⟨⟨Nat.le_of_ble_eq_true rfl, Nat.le_of_ble_eq_true rfl⟩, rfl, rfl⟩ (pl_glb (k := 3) (by decide)) rfl rfl rfl rfl (Nat.le_of_ble_eq_true rfl) dX4_readLeg_17 ⟨Nat.le_of_ble_eq_true rfl, Nat.le_of_ble_eq_true rfl⟩ rfl (fun H locs X => ?_)
  obtain ⟨x5, ex5, h0⟩ := lt_out h0
  have kx5 := m_X3_legAt l D ca ar ag P r R Gv4 xs hr x3.1 x5 ex5.symm H.size
  refine w_callV0 K X wC_fstx kx5 hl.1 1 q554 q555 q556 q17 q557 hv_X3_legAt ⟨⟨Nat.le_of_ble_eq_true rfl, Nat.le_of_ble_eq_true rfl⟩, rfl, rfl⟩ (pl_rowo hr) rfl rfl rfl rfl (Nat.le_of_ble_eq_true rfl) dX4_readLeg_20 ⟨Nat.le_of_ble_eq_true rfl, Nat.le_of_ble_eq_true rfl⟩ rfl (fun H locs X => ?_)
  obtain ⟨j6, ej6, h0⟩ := lt_out h0
  rw [← ej6]
  have hj6 : j6 < 2 := by rw [ej6]; exact lt_X3_legAt ex5
  refine lv_astore_n (lv' := [(1, .ref (ar r (j6 + 2))), (0, .ref gq)]) hx hb dX4_readLeg_23 rfl hl (by decide) rfl (fun ls hl => ?_)
  refine lv_aload_n hx hb dX4_readLeg_24 rfl (lv_at hl 1 rfl) ?_
  refine g_gram4 K X hg 0 (by decide) rfl q499 dX4_readLeg_25 ?_
  refine lv_bipush (v := 100) hx hb dX4_readLeg_28 (by decide) ?_
  refine lv_sipush (v := 20000) hx hb dX4_readLeg_30 (by decide) ?_
  obtain ⟨x7, ex7, h0⟩ := ob_out h0
  obtain ⟨Gv8, eGv8, h0⟩ := lt_out h0
  have kx7 := m_X5_takeNumber l D ca ar ag n (va_up P r R) Gv4 xs 100 20000 x7.1 x7.2 ex7 H.size
  rw [← eGv8] at kx7
  refine w_callV0 K X wC_fstx kx7 hl.1 2 q525 q526 q527 q21 q528 hv_X5_takeNumber ⟨⟨Nat.le_of_ble_eq_true rfl, Nat.le_of_ble_eq_true rfl⟩, rfl, rfl⟩ (pl_glb (k := 3) (by decide)) rfl rfl rfl rfl (Nat.le_of_ble_eq_true rfl) dX4_readLeg_33 ⟨Nat.le_of_ble_eq_true rfl, Nat.le_of_ble_eq_true rfl⟩ rfl (fun H locs X => ?_)
  obtain ⟨x9, ex9, h0⟩ := lt_out h0
  refine w_int ex9 ?_
  refine lv_istore_n (lv' := [(2, .int x9), (1, .ref (ar r (j6 + 2))), (0, .ref gq)]) hx hb dX4_readLeg_36 rfl hl (by decide) rfl (fun ls hl => ?_)
  refine lv_aload_n hx hb dX4_readLeg_37 rfl (lv_at hl 2 rfl) ?_
  refine g_gram4 K X hg 0 (by decide) rfl q499 dX4_readLeg_38 ?_
  refine lv_bipush (v := 100) hx hb dX4_readLeg_41 (by decide) ?_
  refine lv_ldc hx hb K.2.2.2.1 (K.2.2.2.2.1 _ q529) dX4_readLeg_43 ?_
  obtain ⟨x10, ex10, h0⟩ := ob_out h0
  obtain ⟨Gv11, eGv11, h0⟩ := lt_out h0
  have kx10 := m_X5_takeNumber l D ca ar ag n (va_up P r R) Gv8 xs 100 99999 x10.1 x10.2 ex10 H.size
  rw [← eGv11] at kx10
  refine w_callV0 K X wC_fstx kx10 hl.1 2 q525 q526 q527 q21 q528 hv_X5_takeNumber ⟨⟨Nat.le_of_ble_eq_true rfl, Nat.le_of_ble_eq_true rfl⟩, rfl, rfl⟩ (pl_glb (k := 3) (by decide)) rfl rfl rfl rfl (Nat.le_of_ble_eq_true rfl) dX4_readLeg_45 ⟨Nat.le_of_ble_eq_true rfl, Nat.le_of_ble_eq_true rfl⟩ rfl (fun H locs X => ?_)
  obtain ⟨x12, ex12, h0⟩ := lt_out h0
  refine w_int ex12 ?_
  refine lv_istore_n (lv' := [(3, .int x12), (2, .int x9), (1, .ref (ar r (j6 + 2))), (0, .ref gq)]) hx hb dX4_readLeg_48 rfl hl (by decide) rfl (fun ls hl => ?_)
  refine lv_aload_n hx hb dX4_readLeg_49 rfl (lv_at hl 2 rfl) ?_
  refine lv_iload_n hx hb dX4_readLeg_50 rfl (lv_at hl 1 rfl) ?_
  refine lv_iload_n hx hb dX4_readLeg_51 rfl (lv_at hl 0 rfl) ?_
  refine lv_aload_n hx hb dX4_readLeg_52 rfl (lv_at hl 3 rfl) ?_
  refine g_gram4 K X hg 0 (by decide) rfl q499 dX4_readLeg_53 ?_
  obtain ⟨x13, ex13, h0⟩ := ob_out h0
  obtain ⟨Gv14, eGv14, h0⟩ := lt_out h0
  have kx13 := m_X5_takeSigned l D ca ar ag n (va_up P r R) Gv11 xs x13.1 x13.2 ex13 H.size
  rw [← eGv14] at kx13
  refine w_callV0 K X wC_fstx kx13 hl.1 0 q558 q559 q560 q21 q561 hv_X5_takeSigned ⟨⟨Nat.le_of_ble_eq_true rfl, Nat.le_of_ble_eq_true rfl⟩, rfl, rfl⟩ (pl_glb (k := 3) (by decide)) rfl rfl rfl rfl (Nat.le_of_ble_eq_true rfl) dX4_readLeg_56 ⟨Nat.le_of_ble_eq_true rfl, Nat.le_of_ble_eq_true rfl⟩ rfl (fun H locs X => ?_)
  obtain ⟨x15, ex15, h0⟩ := lt_out h0
  obtain ⟨Rv16, eRv16, h0⟩ := lt_out h0
  have kx15 := mR_X1_liquid l D ca ar ag P r j6 R Gv14 xs hr hj6 x9 x12 x13.1 x15 ex15.symm H.size
  rw [← eRv16] at kx15
  refine w_callV0 K X wC_fstx kx15 hl.1 3 q563 q271 q272 q18 q273 hv_X1_liquid ⟨⟨Nat.le_of_ble_eq_true rfl, Nat.le_of_ble_eq_true rfl⟩, rfl, rfl⟩ (pl_leg hr hj6) rfl rfl rfl rfl (Nat.le_of_ble_eq_true rfl) dX4_readLeg_59 ⟨Nat.le_of_ble_eq_true rfl, Nat.le_of_ble_eq_true rfl⟩ rfl (fun H locs X => ?_)
  have h0 := Option.some.inj h0
  obtain ⟨q_0, q_1⟩ := Prod.mk.inj h0
  subst q_0
  subst q_1
  subst hQ
  exact w_vret K hr0 X wC_fstx hsz dX4_readLeg_62
-- X4_readTube
def f_X4_readTube (n : Nat) (R : RowS) (G : GlbS) : Option (RowS × GlbS) :=
  if (R.1 0 2) < 12 then
    ob (f_X5_advance n G) fun x2 =>
    lt (x2) fun Gv3 =>
    lt (f_X3_append R) fun x4 =>
    lt (x4.2) fun Rv5 =>
    lt (x4.1) fun j6 =>
    ob (f_X5_takeNumber n Gv3 0 1) fun x7 =>
    lt (x7.2) fun Gv8 =>
    lt (x7.1) fun x9 =>
    ob (f_X5_takeNumber n Gv8 0 ((Rv5.1 0 0) - 1)) fun x10 =>
    lt (x10.2) fun Gv11 =>
    lt (f_X6_stand (Rv5.1 (j6 + 5)) x9 x10.1) fun x12 =>
    lt (stT Rv5 (j6 + 5) x12) fun Rv13 =>
    ob (f_X5_takeNumber n Gv11 1 20) fun x14 =>
    lt (x14.2) fun Gv15 =>
    lt (x14.1) fun x16 =>
    ob (f_X5_takeNumber n Gv15 50 1000) fun x17 =>
    lt (x17.2) fun Gv18 =>
    lt (x17.1) fun x19 =>
    ob (f_X5_takeNumber n Gv18 10 2000) fun x20 =>
    lt (x20.2) fun Gv21 =>
    lt (f_X6_shape (Rv13.1 (j6 + 5)) x16 x19 x20.1) fun x22 =>
    lt (stT Rv13 (j6 + 5) x22) fun Rv23 =>
    ob (f_X5_isWord n Gv21 12) fun x24 =>
    if x24 = true then
      ob (f_X5_advance n Gv21) fun x26 =>
      lt (x26) fun Gv27 =>
      ob (f_X5_takeSigned n Gv27) fun x28 =>
      lt (x28.2) fun Gv29 =>
      lt (si Rv23 (j6 + 5) 5 x28.1) fun Rv30 =>
      some (Rv30, Gv29)
    else
      some (Rv23, Gv21)
  else
    lt (f_X5_fail G 3) fun x31 =>
    lt (x31) fun Gv32 =>
    some (R, Gv32)
abbrev rm_X4_readTube : Room := { frames := 5, cells := 0, slots := 0, locals := 109 }
set_option maxRecDepth 100000 in
set_option maxHeartbeats 4000000 in
theorem m_X4_readTube (l : Launch) (D : va_G) (ca : Nat → ClassId) (ar : Nat → Nat → Nat) (ag : Nat → Nat) (z : ZG) (n : Nat) (P : RowsS) (r : Nat) (R : RowS) (G : GlbS) (xs : va_W) (hr : r < 13) (gq gj : Nat) (hg : xs[gj]? = some (gq, .inr (6, [.ref (ag 3), .ref (ar r 0)]))) (R' : RowS) (G' : GlbS) (h0 : f_X4_readTube n R G = some (R', G')) (sz : Nat) : Met l yX4_readTube (ws_ yX4_readTube cX4_readTube 5 none) rm_X4_readTube (PCz z D ca (wC ar ag ca (va_up P r R) G ++ xs) sz [.ref gq]) (QMw D (wC ar ag ca (va_up P r R) G ++ xs) (wC ar ag ca (va_up P r (R')) (G') ++ xs) sz none) 0 0 (AL (wC ar ag ca (va_up P r R) G ++ xs) sz) := by
  refine met_z (by decide +kernel) (Nat.le_of_ble_eq_true rfl) (fun p e s m args below meth c K hr0 hZ X hsz ls hl => ?_)
  have K : MC D ca p s m args meth c cX4_readTube 5 RX4 := K
  have hx := K.1
  have hb := K.2.1
  have hl : lv_has ls 5 [(0, .ref gq)] := hl
  generalize hQ : MQ below _ args s 0 0 _ = Q
  unfold f_X4_readTube at h0
  suffices Z : ∀ (H : Heap) (locs : List Loc) (X : RW D (wC ar ag ca (va_up P r R) G ++ xs) s.heap H locs), W p l e rm_X4_readTube s m args below meth c H locs 0 0 Q (F0 m 0 ls []) from Z _ _ X
  intro H locs X
  refine lv_aload_n hx hb dX4_readTube_0 rfl (lv_at hl 0 rfl) ?_
  refine g_gram4 K X hg 1 (by decide) rfl q500 dX4_readTube_1 ?_
  refine g_rowi K X hr (upR_1 _) 2 (by decide) q150 dX4_readTube_4 ?_
  refine lv_bipush (v := 12) hx hb dX4_readTube_7 (by decide) ?_
  refine lv_icmp_lt (tgt := 21) hx hb dX4_readTube_9 (by decide) (fun c1 => ?_) (fun c1 => ?_)
  · have h0 := if_t c1 h0
    refine lv_aload_n hx hb dX4_readTube_21 rfl (lv_at hl 0 rfl) ?_
    refine g_gram4 K X hg 0 (by decide) rfl q499 dX4_readTube_22 ?_
    obtain ⟨x2, ex2, h0⟩ := ob_out h0
    obtain ⟨Gv3, eGv3, h0⟩ := lt_out h0
    have kx2 := m_X5_advance l D ca ar ag n (va_up P r R) G xs x2 ex2 H.size
    rw [← eGv3] at kx2
    refine w_callV0 K X wC_fstx kx2 hl.1 0 q553 q479 q480 q21 q481 hv_X5_advance ⟨⟨Nat.le_of_ble_eq_true rfl, Nat.le_of_ble_eq_true rfl⟩, rfl, rfl⟩ (pl_glb (k := 3) (by decide)) rfl rfl rfl rfl (Nat.le_of_ble_eq_true rfl) dX4_readTube_25 ⟨Nat.le_of_ble_eq_true rfl, Nat.le_of_ble_eq_true rfl⟩ rfl (fun H locs X => ?_)
    refine lv_aload_n hx hb dX4_readTube_28 rfl (lv_at hl 0 rfl) ?_
    refine g_gram4 K X hg 1 (by decide) rfl q500 dX4_readTube_29 ?_
    obtain ⟨x4, ex4, h0⟩ := lt_out h0
    obtain ⟨Rv5, eRv5, h0⟩ := lt_out h0
    have kx4 := m_X3_append l D ca ar ag P r R Gv3 xs hr x4.1 x4.2 ex4.symm H.size
    rw [← eRv5] at kx4
    refine w_callV0 K X wC_fstx kx4 hl.1 0 q570 q571 q572 q17 q573 hv_X3_append ⟨⟨Nat.le_of_ble_eq_true rfl, Nat.le_of_ble_eq_true rfl⟩, rfl, rfl⟩ (pl_rowo hr) rfl rfl rfl rfl (Nat.le_of_ble_eq_true rfl) dX4_readTube_32 ⟨Nat.le_of_ble_eq_true rfl, Nat.le_of_ble_eq_true rfl⟩ rfl (fun H locs X => ?_)
    obtain ⟨j6, ej6, h0⟩ := lt_out h0
    rw [← ej6]
    have hj6 : j6 < 13 := by rw [ej6]; exact lt_X3_append ex4
    refine lv_astore_n (lv' := [(1, .ref (ar r (j6 + 5))), (0, .ref gq)]) hx hb dX4_readTube_35 rfl hl (by decide) rfl (fun ls hl => ?_)
    refine lv_aload_n hx hb dX4_readTube_36 rfl (lv_at hl 1 rfl) ?_
    refine g_gram4 K X hg 0 (by decide) rfl q499 dX4_readTube_37 ?_
    refine lv_iconst (v := 0) hx hb dX4_readTube_40 (by decide) ?_
    refine lv_iconst (v := 1) hx hb dX4_readTube_41 (by decide) ?_
    obtain ⟨x7, ex7, h0⟩ := ob_out h0
    obtain ⟨Gv8, eGv8, h0⟩ := lt_out h0
    have kx7 := m_X5_takeNumber l D ca ar ag n (va_up P r Rv5) Gv3 xs 0 1 x7.1 x7.2 ex7 H.size
    rw [← eGv8] at kx7
    refine w_callV0 K X wC_fstx kx7 hl.1 2 q525 q526 q527 q21 q528 hv_X5_takeNumber ⟨⟨Nat.le_of_ble_eq_true rfl, Nat.le_of_ble_eq_true rfl⟩, rfl, rfl⟩ (pl_glb (k := 3) (by decide)) rfl rfl rfl rfl (Nat.le_of_ble_eq_true rfl) dX4_readTube_42 ⟨Nat.le_of_ble_eq_true rfl, Nat.le_of_ble_eq_true rfl⟩ rfl (fun H locs X => ?_)
    obtain ⟨x9, ex9, h0⟩ := lt_out h0
    refine w_int ex9 ?_
    refine lv_istore_n (lv' := [(2, .int x9), (1, .ref (ar r (j6 + 5))), (0, .ref gq)]) hx hb dX4_readTube_45 rfl hl (by decide) rfl (fun ls hl => ?_)
    refine lv_aload_n hx hb dX4_readTube_46 rfl (lv_at hl 1 rfl) ?_
    refine lv_iload_n hx hb dX4_readTube_47 rfl (lv_at hl 0 rfl) ?_
    refine lv_aload_n hx hb dX4_readTube_48 rfl (lv_at hl 2 rfl) ?_
    refine g_gram4 K X hg 0 (by decide) rfl q499 dX4_readTube_49 ?_
    refine lv_iconst (v := 0) hx hb dX4_readTube_52 (by decide) ?_
    refine lv_aload_n hx hb dX4_readTube_53 rfl (lv_at hl 2 rfl) ?_
    refine g_gram4 K X hg 1 (by decide) rfl q500 dX4_readTube_54 ?_
    refine g_rowi K X hr (upR_1 _) 0 (by decide) q145 dX4_readTube_57 ?_
    refine lv_iconst (v := 1) hx hb dX4_readTube_60 (by decide) ?_
    refine lv_isub hx hb dX4_readTube_61 ?_
    obtain ⟨x10, ex10, h0⟩ := ob_out h0
    obtain ⟨Gv11, eGv11, h0⟩ := lt_out h0
    have kx10 := m_X5_takeNumber l D ca ar ag n (va_up P r Rv5) Gv8 xs 0 ((Rv5.1 0 0) - 1) x10.1 x10.2 ex10 H.size
    rw [← eGv11] at kx10
    refine w_callV0 K X wC_fstx kx10 hl.1 2 q525 q526 q527 q21 q528 hv_X5_takeNumber ⟨⟨Nat.le_of_ble_eq_true rfl, Nat.le_of_ble_eq_true rfl⟩, rfl, rfl⟩ (pl_glb (k := 3) (by decide)) rfl rfl rfl rfl (Nat.le_of_ble_eq_true rfl) dX4_readTube_62 ⟨Nat.le_of_ble_eq_true rfl, Nat.le_of_ble_eq_true rfl⟩ rfl (fun H locs X => ?_)
    obtain ⟨x12, ex12, h0⟩ := lt_out h0
    obtain ⟨Rv13, eRv13, h0⟩ := lt_out h0
    have kx12 := mR_X6_stand l D ca ar ag P r j6 Rv5 Gv11 xs hr hj6 x9 x10.1 x12 ex12.symm H.size
    rw [← eRv13] at kx12
    refine w_callV0 K X wC_fstx kx12 hl.1 2 q578 q579 q580 q19 q581 hv_X6_stand ⟨⟨Nat.le_of_ble_eq_true rfl, Nat.le_of_ble_eq_true rfl⟩, rfl, rfl⟩ (pl_tube hr hj6) rfl rfl rfl rfl (Nat.le_of_ble_eq_true rfl) dX4_readTube_65 ⟨Nat.le_of_ble_eq_true rfl, Nat.le_of_ble_eq_true rfl⟩ rfl (fun H locs X => ?_)
    refine lv_aload_n hx hb dX4_readTube_68 rfl (lv_at hl 2 rfl) ?_
    refine g_gram4 K X hg 0 (by decide) rfl q499 dX4_readTube_69 ?_
    refine lv_iconst (v := 1) hx hb dX4_readTube_72 (by decide) ?_
    refine lv_bipush (v := 20) hx hb dX4_readTube_73 (by decide) ?_
    obtain ⟨x14, ex14, h0⟩ := ob_out h0
    obtain ⟨Gv15, eGv15, h0⟩ := lt_out h0
    have kx14 := m_X5_takeNumber l D ca ar ag n (va_up P r Rv13) Gv11 xs 1 20 x14.1 x14.2 ex14 H.size
    rw [← eGv15] at kx14
    refine w_callV0 K X wC_fstx kx14 hl.1 2 q525 q526 q527 q21 q528 hv_X5_takeNumber ⟨⟨Nat.le_of_ble_eq_true rfl, Nat.le_of_ble_eq_true rfl⟩, rfl, rfl⟩ (pl_glb (k := 3) (by decide)) rfl rfl rfl rfl (Nat.le_of_ble_eq_true rfl) dX4_readTube_75 ⟨Nat.le_of_ble_eq_true rfl, Nat.le_of_ble_eq_true rfl⟩ rfl (fun H locs X => ?_)
    obtain ⟨x16, ex16, h0⟩ := lt_out h0
    refine w_int ex16 ?_
    refine lv_istore_n (lv' := [(3, .int x16), (2, .int x9), (1, .ref (ar r (j6 + 5))), (0, .ref gq)]) hx hb dX4_readTube_78 rfl hl (by decide) rfl (fun ls hl => ?_)
    refine lv_aload_n hx hb dX4_readTube_79 rfl (lv_at hl 3 rfl) ?_
    refine g_gram4 K X hg 0 (by decide) rfl q499 dX4_readTube_80 ?_
    refine lv_bipush (v := 50) hx hb dX4_readTube_83 (by decide) ?_
    refine lv_sipush (v := 1000) hx hb dX4_readTube_85 (by decide) ?_
    obtain ⟨x17, ex17, h0⟩ := ob_out h0
    obtain ⟨Gv18, eGv18, h0⟩ := lt_out h0
    have kx17 := m_X5_takeNumber l D ca ar ag n (va_up P r Rv13) Gv15 xs 50 1000 x17.1 x17.2 ex17 H.size
    rw [← eGv18] at kx17
    refine w_callV0 K X wC_fstx kx17 hl.1 2 q525 q526 q527 q21 q528 hv_X5_takeNumber ⟨⟨Nat.le_of_ble_eq_true rfl, Nat.le_of_ble_eq_true rfl⟩, rfl, rfl⟩ (pl_glb (k := 3) (by decide)) rfl rfl rfl rfl (Nat.le_of_ble_eq_true rfl) dX4_readTube_88 ⟨Nat.le_of_ble_eq_true rfl, Nat.le_of_ble_eq_true rfl⟩ rfl (fun H locs X => ?_)
    obtain ⟨x19, ex19, h0⟩ := lt_out h0
    refine w_int ex19 ?_
    refine lv_istore (lv' := [(4, .int x19), (3, .int x16), (2, .int x9), (1, .ref (ar r (j6 + 5))), (0, .ref gq)]) hx hb dX4_readTube_91 hl (by decide) rfl (fun ls hl => ?_)
    refine lv_aload_n hx hb dX4_readTube_93 rfl (lv_at hl 3 rfl) ?_
    refine lv_iload_n hx hb dX4_readTube_94 rfl (lv_at hl 1 rfl) ?_
    refine lv_iload hx hb dX4_readTube_95 (lv_at hl 0 rfl) ?_
    refine lv_aload_n hx hb dX4_readTube_97 rfl (lv_at hl 4 rfl) ?_
    refine g_gram4 K X hg 0 (by decide) rfl q499 dX4_readTube_98 ?_
    refine lv_bipush (v := 10) hx hb dX4_readTube_101 (by decide) ?_
    refine lv_sipush (v := 2000) hx hb dX4_readTube_103 (by decide) ?_
    obtain ⟨x20, ex20, h0⟩ := ob_out h0
    obtain ⟨Gv21, eGv21, h0⟩ := lt_out h0
    have kx20 := m_X5_takeNumber l D ca ar ag n (va_up P r Rv13) Gv18 xs 10 2000 x20.1 x20.2 ex20 H.size
    rw [← eGv21] at kx20
    refine w_callV0 K X wC_fstx kx20 hl.1 2 q525 q526 q527 q21 q528 hv_X5_takeNumber ⟨⟨Nat.le_of_ble_eq_true rfl, Nat.le_of_ble_eq_true rfl⟩, rfl, rfl⟩ (pl_glb (k := 3) (by decide)) rfl rfl rfl rfl (Nat.le_of_ble_eq_true rfl) dX4_readTube_106 ⟨Nat.le_of_ble_eq_true rfl, Nat.le_of_ble_eq_true rfl⟩ rfl (fun H locs X => ?_)
    obtain ⟨x22, ex22, h0⟩ := lt_out h0
    obtain ⟨Rv23, eRv23, h0⟩ := lt_out h0
    have kx22 := mR_X6_shape l D ca ar ag P r j6 Rv13 Gv21 xs hr hj6 x16 x19 x20.1 x22 ex22.symm H.size
    rw [← eRv23] at kx22
    refine w_callV0 K X wC_fstx kx22 hl.1 3 q582 q583 q584 q19 q585 hv_X6_shape ⟨⟨Nat.le_of_ble_eq_true rfl, Nat.le_of_ble_eq_true rfl⟩, rfl, rfl⟩ (pl_tube hr hj6) rfl rfl rfl rfl (Nat.le_of_ble_eq_true rfl) dX4_readTube_109 ⟨Nat.le_of_ble_eq_true rfl, Nat.le_of_ble_eq_true rfl⟩ rfl (fun H locs X => ?_)
    refine lv_aload_n hx hb dX4_readTube_112 rfl (lv_at hl 4 rfl) ?_
    refine g_gram4 K X hg 0 (by decide) rfl q499 dX4_readTube_113 ?_
    refine z_ldc K hZ 12 (by decide) ⟨rfl, rfl⟩ dX4_readTube_116 ?_
    obtain ⟨x24, ex24, h0⟩ := ob_out h0
    have kx24 := m_X5_isWord l D ca ar ag z n (va_up P r Rv23) Gv21 xs 12 (by decide) x24 ex24 H.size
    refine z_callV K hZ X wC_fstx wC_fstx kx24 hl.1 1 q548 q516 q517 q21 q518 hv_X5_isWord ⟨⟨Nat.le_of_ble_eq_true rfl, Nat.le_of_ble_eq_true rfl⟩, rfl, rfl⟩ (z_recvw K X (pl_glb (k := 3) (by decide)) rfl rfl) rfl rfl (Nat.le_of_ble_eq_true rfl) dX4_readTube_118 ⟨Nat.le_of_ble_eq_true rfl, Nat.le_of_ble_eq_true rfl⟩ rfl (fun H locs X => ?_)
    refine w_zeq (tgt := 142) K dX4_readTube_121 (by decide) (fun c25 => ?_) (fun c25 => ?_)
    · have h0 := if_f c25 h0
      have h0 := Option.some.inj h0
      obtain ⟨q_0, q_1⟩ := Prod.mk.inj h0
      subst q_0
      subst q_1
      subst hQ
      exact w_vret K hr0 X wC_fstx hsz dX4_readTube_142
    · have h0 := if_t c25 h0
      refine lv_aload_n hx hb dX4_readTube_124 rfl (lv_at hl 4 rfl) ?_
      refine g_gram4 K X hg 0 (by decide) rfl q499 dX4_readTube_125 ?_
      obtain ⟨x26, ex26, h0⟩ := ob_out h0
      obtain ⟨Gv27, eGv27, h0⟩ := lt_out h0
      have kx26 := m_X5_advance l D ca ar ag n (va_up P r Rv23) Gv21 xs x26 ex26 H.size
      rw [← eGv27] at kx26
      refine w_callV0 K X wC_fstx kx26 hl.1 0 q553 q479 q480 q21 q481 hv_X5_advance ⟨⟨Nat.le_of_ble_eq_true rfl, Nat.le_of_ble_eq_true rfl⟩, rfl, rfl⟩ (pl_glb (k := 3) (by decide)) rfl rfl rfl rfl (Nat.le_of_ble_eq_true rfl) dX4_readTube_128 ⟨Nat.le_of_ble_eq_true rfl, Nat.le_of_ble_eq_true rfl⟩ rfl (fun H locs X => ?_)
      refine lv_aload_n hx hb dX4_readTube_131 rfl (lv_at hl 3 rfl) ?_
      refine lv_aload_n hx hb dX4_readTube_132 rfl (lv_at hl 4 rfl) ?_
      refine g_gram4 K X hg 0 (by decide) rfl q499 dX4_readTube_133 ?_
      obtain ⟨x28, ex28, h0⟩ := ob_out h0
      obtain ⟨Gv29, eGv29, h0⟩ := lt_out h0
      have kx28 := m_X5_takeSigned l D ca ar ag n (va_up P r Rv23) Gv27 xs x28.1 x28.2 ex28 H.size
      rw [← eGv29] at kx28
      refine w_callV0 K X wC_fstx kx28 hl.1 0 q558 q559 q560 q21 q561 hv_X5_takeSigned ⟨⟨Nat.le_of_ble_eq_true rfl, Nat.le_of_ble_eq_true rfl⟩, rfl, rfl⟩ (pl_glb (k := 3) (by decide)) rfl rfl rfl rfl (Nat.le_of_ble_eq_true rfl) dX4_readTube_136 ⟨Nat.le_of_ble_eq_true rfl, Nat.le_of_ble_eq_true rfl⟩ rfl (fun H locs X => ?_)
      obtain ⟨Rv30, eRv30, h0⟩ := lt_out h0
      refine p_tube K X hr hj6 5 (by decide) (upR_si eRv30) q110 dX4_readTube_139 (fun H locs X => ?_)
      have h0 := Option.some.inj h0
      obtain ⟨q_0, q_1⟩ := Prod.mk.inj h0
      subst q_0
      subst q_1
      subst hQ
      exact w_vret K hr0 X wC_fstx hsz dX4_readTube_142
  · have h0 := if_f c1 h0
    refine lv_aload_n hx hb dX4_readTube_12 rfl (lv_at hl 0 rfl) ?_
    refine g_gram4 K X hg 0 (by decide) rfl q499 dX4_readTube_13 ?_
    refine lv_iconst (v := 3) hx hb dX4_readTube_16 (by decide) ?_
    obtain ⟨x31, ex31, h0⟩ := lt_out h0
    obtain ⟨Gv32, eGv32, h0⟩ := lt_out h0
    have kx31 := m_X5_fail l D ca ar ag (va_up P r R) G xs 3 x31 ex31.symm H.size
    rw [← eGv32] at kx31
    refine w_callV0 K X wC_fstx kx31 hl.1 1 q569 q522 q523 q21 q524 hv_X5_fail ⟨⟨Nat.le_of_ble_eq_true rfl, Nat.le_of_ble_eq_true rfl⟩, rfl, rfl⟩ (pl_glb (k := 3) (by decide)) rfl rfl rfl rfl (Nat.le_of_ble_eq_true rfl) dX4_readTube_17 ⟨Nat.le_of_ble_eq_true rfl, Nat.le_of_ble_eq_true rfl⟩ rfl (fun H locs X => ?_)
    have h0 := Option.some.inj h0
    obtain ⟨q_0, q_1⟩ := Prod.mk.inj h0
    subst q_0
    subst q_1
    subst hQ
    exact w_vret K hr0 X wC_fstx hsz dX4_readTube_20
-- X4_readClause
def f_X4_readClause (n : Nat) (R : RowS) (G : GlbS) : Option (RowS × GlbS) :=
  ob (f_X5_isWord n G 10) fun x1 =>
  if x1 = true then
    ob (f_X4_readLeg n R G) fun x17 =>
    lt (x17.1) fun Rv18 =>
    lt (x17.2) fun Gv19 =>
    some (Rv18, Gv19)
  else
    ob (f_X5_isWord n G 11) fun x3 =>
    if x3 = true then
      ob (f_X4_readTube n R G) fun x14 =>
      lt (x14.1) fun Rv15 =>
      lt (x14.2) fun Gv16 =>
      some (Rv15, Gv16)
    else
      ob (f_X5_takeWord n G 13) fun x5 =>
      lt (x5) fun Gv6 =>
      ob (f_X5_takeNumber n Gv6 0 ((R.1 0 0) - 1)) fun x7 =>
      lt (x7.2) fun Gv8 =>
      lt (x7.1) fun x9 =>
      ob (f_X5_takeNumber n Gv8 0 99999) fun x10 =>
      lt (x10.2) fun Gv11 =>
      lt (f_X3_press R x9 x10.1) fun x12 =>
      lt (x12) fun Rv13 =>
      some (Rv13, Gv11)
abbrev rm_X4_readClause : Room := { frames := 6, cells := 0, slots := 0, locals := 133 }
set_option maxRecDepth 100000 in
set_option maxHeartbeats 4000000 in
theorem m_X4_readClause (l : Launch) (D : va_G) (ca : Nat → ClassId) (ar : Nat → Nat → Nat) (ag : Nat → Nat) (z : ZG) (n : Nat) (P : RowsS) (r : Nat) (R : RowS) (G : GlbS) (xs : va_W) (hr : r < 13) (gq gj : Nat) (hg : xs[gj]? = some (gq, .inr (6, [.ref (ag 3), .ref (ar r 0)]))) (R' : RowS) (G' : GlbS) (h0 : f_X4_readClause n R G = some (R', G')) (sz : Nat) : Met l yX4_readClause (ws_ yX4_readClause cX4_readClause 2 none) rm_X4_readClause (PCz z D ca (wC ar ag ca (va_up P r R) G ++ xs) sz [.ref gq]) (QMw D (wC ar ag ca (va_up P r R) G ++ xs) (wC ar ag ca (va_up P r (R')) (G') ++ xs) sz none) 0 0 (AL (wC ar ag ca (va_up P r R) G ++ xs) sz) := by
  refine met_z (by decide +kernel) (Nat.le_of_ble_eq_true rfl) (fun p e s m args below meth c K hr0 hZ X hsz ls hl => ?_)
  have K : MC D ca p s m args meth c cX4_readClause 2 RX4 := K
  have hx := K.1
  have hb := K.2.1
  have hl : lv_has ls 2 [(0, .ref gq)] := hl
  generalize hQ : MQ below _ args s 0 0 _ = Q
  unfold f_X4_readClause at h0
  suffices Z : ∀ (H : Heap) (locs : List Loc) (X : RW D (wC ar ag ca (va_up P r R) G ++ xs) s.heap H locs), W p l e rm_X4_readClause s m args below meth c H locs 0 0 Q (F0 m 0 ls []) from Z _ _ X
  intro H locs X
  refine lv_aload_n hx hb dX4_readClause_0 rfl (lv_at hl 0 rfl) ?_
  refine g_gram4 K X hg 0 (by decide) rfl q499 dX4_readClause_1 ?_
  refine z_ldc K hZ 10 (by decide) ⟨rfl, rfl⟩ dX4_readClause_4 ?_
  obtain ⟨x1, ex1, h0⟩ := ob_out h0
  have kx1 := m_X5_isWord l D ca ar ag z n (va_up P r R) G xs 10 (by decide) x1 ex1 H.size
  refine z_callV K hZ X wC_fstx wC_fstx kx1 hl.1 1 q548 q516 q517 q21 q518 hv_X5_isWord ⟨⟨Nat.le_of_ble_eq_true rfl, Nat.le_of_ble_eq_true rfl⟩, rfl, rfl⟩ (z_recvw K X (pl_glb (k := 3) (by decide)) rfl rfl) rfl rfl (Nat.le_of_ble_eq_true rfl) dX4_readClause_6 ⟨Nat.le_of_ble_eq_true rfl, Nat.le_of_ble_eq_true rfl⟩ rfl (fun H locs X => ?_)
  refine w_zeq (tgt := 19) K dX4_readClause_9 (by decide) (fun c2 => ?_) (fun c2 => ?_)
  · have h0 := if_f c2 h0
    refine lv_aload_n hx hb dX4_readClause_19 rfl (lv_at hl 0 rfl) ?_
    refine g_gram4 K X hg 0 (by decide) rfl q499 dX4_readClause_20 ?_
    refine z_ldc K hZ 11 (by decide) ⟨rfl, rfl⟩ dX4_readClause_23 ?_
    obtain ⟨x3, ex3, h0⟩ := ob_out h0
    have kx3 := m_X5_isWord l D ca ar ag z n (va_up P r R) G xs 11 (by decide) x3 ex3 H.size
    refine z_callV K hZ X wC_fstx wC_fstx kx3 hl.1 1 q548 q516 q517 q21 q518 hv_X5_isWord ⟨⟨Nat.le_of_ble_eq_true rfl, Nat.le_of_ble_eq_true rfl⟩, rfl, rfl⟩ (z_recvw K X (pl_glb (k := 3) (by decide)) rfl rfl) rfl rfl (Nat.le_of_ble_eq_true rfl) dX4_readClause_25 ⟨Nat.le_of_ble_eq_true rfl, Nat.le_of_ble_eq_true rfl⟩ rfl (fun H locs X => ?_)
    refine w_zeq (tgt := 38) K dX4_readClause_28 (by decide) (fun c4 => ?_) (fun c4 => ?_)
    · have h0 := if_f c4 h0
      refine lv_aload_n hx hb dX4_readClause_38 rfl (lv_at hl 0 rfl) ?_
      refine g_gram4 K X hg 0 (by decide) rfl q499 dX4_readClause_39 ?_
      refine z_ldc K hZ 13 (by decide) ⟨rfl, rfl⟩ dX4_readClause_42 ?_
      obtain ⟨x5, ex5, h0⟩ := ob_out h0
      obtain ⟨Gv6, eGv6, h0⟩ := lt_out h0
      have kx5 := m_X5_takeWord l D ca ar ag z n (va_up P r R) G xs 13 (by decide) x5 ex5 H.size
      rw [← eGv6] at kx5
      refine z_callV K hZ X wC_fstx wC_fstx kx5 hl.1 1 q511 q512 q513 q21 q514 hv_X5_takeWord ⟨⟨Nat.le_of_ble_eq_true rfl, Nat.le_of_ble_eq_true rfl⟩, rfl, rfl⟩ (z_recvw K X (pl_glb (k := 3) (by decide)) rfl rfl) rfl rfl (Nat.le_of_ble_eq_true rfl) dX4_readClause_44 ⟨Nat.le_of_ble_eq_true rfl, Nat.le_of_ble_eq_true rfl⟩ rfl (fun H locs X => ?_)
      refine lv_aload_n hx hb dX4_readClause_47 rfl (lv_at hl 0 rfl) ?_
      refine g_gram4 K X hg 0 (by decide) rfl q499 dX4_readClause_48 ?_
      refine lv_iconst (v := 0) hx hb dX4_readClause_51 (by decide) ?_
      refine lv_aload_n hx hb dX4_readClause_52 rfl (lv_at hl 0 rfl) ?_
      refine g_gram4 K X hg 1 (by decide) rfl q500 dX4_readClause_53 ?_
      refine g_rowi K X hr (upR_1 _) 0 (by decide) q145 dX4_readClause_56 ?_
      refine lv_iconst (v := 1) hx hb dX4_readClause_59 (by decide) ?_
      refine lv_isub hx hb dX4_readClause_60 ?_
      obtain ⟨x7, ex7, h0⟩ := ob_out h0
      obtain ⟨Gv8, eGv8, h0⟩ := lt_out h0
      have kx7 := m_X5_takeNumber l D ca ar ag n (va_up P r R) Gv6 xs 0 ((R.1 0 0) - 1) x7.1 x7.2 ex7 H.size
      rw [← eGv8] at kx7
      refine w_callV0 K X wC_fstx kx7 hl.1 2 q525 q526 q527 q21 q528 hv_X5_takeNumber ⟨⟨Nat.le_of_ble_eq_true rfl, Nat.le_of_ble_eq_true rfl⟩, rfl, rfl⟩ (pl_glb (k := 3) (by decide)) rfl rfl rfl rfl (Nat.le_of_ble_eq_true rfl) dX4_readClause_61 ⟨Nat.le_of_ble_eq_true rfl, Nat.le_of_ble_eq_true rfl⟩ rfl (fun H locs X => ?_)
      obtain ⟨x9, ex9, h0⟩ := lt_out h0
      refine w_int ex9 ?_
      refine lv_istore_n (lv' := [(1, .int x9), (0, .ref gq)]) hx hb dX4_readClause_64 rfl hl (by decide) rfl (fun ls hl => ?_)
      refine lv_aload_n hx hb dX4_readClause_65 rfl (lv_at hl 1 rfl) ?_
      refine g_gram4 K X hg 1 (by decide) rfl q500 dX4_readClause_66 ?_
      refine lv_iload_n hx hb dX4_readClause_69 rfl (lv_at hl 0 rfl) ?_
      refine lv_aload_n hx hb dX4_readClause_70 rfl (lv_at hl 1 rfl) ?_
      refine g_gram4 K X hg 0 (by decide) rfl q499 dX4_readClause_71 ?_
      refine lv_iconst (v := 0) hx hb dX4_readClause_74 (by decide) ?_
      refine lv_ldc hx hb K.2.2.2.1 (K.2.2.2.2.1 _ q529) dX4_readClause_75 ?_
      obtain ⟨x10, ex10, h0⟩ := ob_out h0
      obtain ⟨Gv11, eGv11, h0⟩ := lt_out h0
      have kx10 := m_X5_takeNumber l D ca ar ag n (va_up P r R) Gv8 xs 0 99999 x10.1 x10.2 ex10 H.size
      rw [← eGv11] at kx10
      refine w_callV0 K X wC_fstx kx10 hl.1 2 q525 q526 q527 q21 q528 hv_X5_takeNumber ⟨⟨Nat.le_of_ble_eq_true rfl, Nat.le_of_ble_eq_true rfl⟩, rfl, rfl⟩ (pl_glb (k := 3) (by decide)) rfl rfl rfl rfl (Nat.le_of_ble_eq_true rfl) dX4_readClause_77 ⟨Nat.le_of_ble_eq_true rfl, Nat.le_of_ble_eq_true rfl⟩ rfl (fun H locs X => ?_)
      obtain ⟨x12, ex12, h0⟩ := lt_out h0
      obtain ⟨Rv13, eRv13, h0⟩ := lt_out h0
      have kx12 := m_X3_press l D ca ar ag P r R Gv11 xs hr x9 x10.1 x12 ex12.symm H.size
      rw [← eRv13] at kx12
      refine w_callV0 K X wC_fstx kx12 hl.1 2 q588 q589 q590 q17 q591 hv_X3_press ⟨⟨Nat.le_of_ble_eq_true rfl, Nat.le_of_ble_eq_true rfl⟩, rfl, rfl⟩ (pl_rowo hr) rfl rfl rfl rfl (Nat.le_of_ble_eq_true rfl) dX4_readClause_80 ⟨Nat.le_of_ble_eq_true rfl, Nat.le_of_ble_eq_true rfl⟩ rfl (fun H locs X => ?_)
      have h0 := Option.some.inj h0
      obtain ⟨q_0, q_1⟩ := Prod.mk.inj h0
      subst q_0
      subst q_1
      subst hQ
      exact w_vret K hr0 X wC_fstx hsz dX4_readClause_83
    · have h0 := if_t c4 h0
      refine lv_aload_n hx hb dX4_readClause_31 rfl (lv_at hl 0 rfl) ?_
      obtain ⟨x14, ex14, h0⟩ := ob_out h0
      obtain ⟨Rv15, eRv15, h0⟩ := lt_out h0
      obtain ⟨Gv16, eGv16, h0⟩ := lt_out h0
      have kx14 := m_X4_readTube l D ca ar ag z n P r R G xs hr gq gj hg x14.1 x14.2 ex14 H.size
      rw [← eRv15, ← eGv16] at kx14
      refine z_callV K hZ X wC_fstx wC_fstx kx14 hl.1 0 q565 q567 q8 q33 q568 hv_X4_readTube ⟨⟨Nat.le_of_ble_eq_true rfl, Nat.le_of_ble_eq_true rfl⟩, rfl, rfl⟩ (z_recvw K X (pl_xs.trans hg) rfl rfl) rfl rfl (Nat.le_of_ble_eq_true rfl) dX4_readClause_32 ⟨Nat.le_of_ble_eq_true rfl, Nat.le_of_ble_eq_true rfl⟩ rfl (fun H locs X => ?_)
      refine lv_goto (tgt := 83) hx hb dX4_readClause_35 (by decide) ?_
      have h0 := Option.some.inj h0
      obtain ⟨q_0, q_1⟩ := Prod.mk.inj h0
      subst q_0
      subst q_1
      subst hQ
      exact w_vret K hr0 X wC_fstx hsz dX4_readClause_83
  · have h0 := if_t c2 h0
    refine lv_aload_n hx hb dX4_readClause_12 rfl (lv_at hl 0 rfl) ?_
    obtain ⟨x17, ex17, h0⟩ := ob_out h0
    obtain ⟨Rv18, eRv18, h0⟩ := lt_out h0
    obtain ⟨Gv19, eGv19, h0⟩ := lt_out h0
    have kx17 := m_X4_readLeg l D ca ar ag n P r R G xs hr gq gj hg x17.1 x17.2 ex17 H.size
    rw [← eRv18, ← eGv19] at kx17
    refine w_callV0 K X wC_fstx kx17 hl.1 0 q549 q551 q7 q33 q552 hv_X4_readLeg ⟨⟨Nat.le_of_ble_eq_true rfl, Nat.le_of_ble_eq_true rfl⟩, rfl, rfl⟩ (pl_xs.trans hg) rfl rfl rfl rfl (Nat.le_of_ble_eq_true rfl) dX4_readClause_13 ⟨Nat.le_of_ble_eq_true rfl, Nat.le_of_ble_eq_true rfl⟩ rfl (fun H locs X => ?_)
    refine lv_goto (tgt := 83) hx hb dX4_readClause_16 (by decide) ?_
    have h0 := Option.some.inj h0
    obtain ⟨q_0, q_1⟩ := Prod.mk.inj h0
    subst q_0
    subst q_1
    subst hQ
    exact w_vret K hr0 X wC_fstx hsz dX4_readClause_83
-- X4_read
def b_X4_read_87  (R_87 : RowS) (G_87 : GlbS) : Option (RowS × GlbS) :=
  some (R_87, G_87)
def l_X4_read_51 (n : Nat) (z51_3 : Int32) (Rz_51 : RowS) (Gz_51 : GlbS) : Option ((Int32 × RowS × GlbS) ⊕ (RowS × GlbS)) :=
  if 600 ≤ z51_3 then
    some (.inr (Rz_51, Gz_51))
  else
    lt (f_X5_goesOn Gz_51) fun x14 =>
    if x14 = true then
      ob (f_X4_readClause n Rz_51 Gz_51) fun x16 =>
      lt (x16.1) fun Rv17 =>
      lt (x16.2) fun Gv18 =>
      ob (f_X5_takeSign n Gv18 59) fun x19 =>
      lt (x19) fun Gv20 =>
      lt (z51_3 + 1) fun x21 =>
      some (.inl (x21, Rv17, Gv20))
    else
      some (.inr (Rz_51, Gz_51))
def f_X4_read (n : Nat) (R : RowS) (G : GlbS) : Option (RowS × GlbS) :=
  ob (f_X5_takeWord n G 9) fun x1 =>
  lt (x1) fun Gv2 =>
  ob (f_X5_takeNumber n Gv2 2 8) fun x3 =>
  lt (x3.2) fun Gv4 =>
  lt (x3.1) fun x5 =>
  ob (f_X5_takeNumber n Gv4 0 99999) fun x6 =>
  lt (x6.2) fun Gv7 =>
  lt (x6.1) fun x8 =>
  ob (f_X3_clear n R x5 x8) fun x9 =>
  lt (x9) fun Rv10 =>
  ob (f_X5_takeSign n Gv7 59) fun x11 =>
  lt (x11) fun Gv12 =>
  ob (wloop (fun t => l_X4_read_51 n t.1 t.2.1 t.2.2) n (0, Rv10, Gv12)) (fun t => b_X4_read_87 t.1 t.2)
abbrev rm_X4_read : Room := { frames := 7, cells := 0, slots := 0, locals := 154 }
set_option maxRecDepth 100000 in
set_option maxHeartbeats 4000000 in
theorem m_X4_read (l : Launch) (D : va_G) (ca : Nat → ClassId) (ar : Nat → Nat → Nat) (ag : Nat → Nat) (z : ZG) (n : Nat) (P : RowsS) (r : Nat) (R : RowS) (G : GlbS) (xs : va_W) (hr : r < 13) (gq gj : Nat) (hg : xs[gj]? = some (gq, .inr (6, [.ref (ag 3), .ref (ar r 0)]))) (R' : RowS) (G' : GlbS) (h0 : f_X4_read n R G = some (R', G')) (sz : Nat) : Met l yX4_read (ws_ yX4_read cX4_read 4 none) rm_X4_read (PCz z D ca (wC ar ag ca (va_up P r R) G ++ xs) sz [.ref gq]) (QMw D (wC ar ag ca (va_up P r R) G ++ xs) (wC ar ag ca (va_up P r (R')) (G') ++ xs) sz none) 0 0 (AL (wC ar ag ca (va_up P r R) G ++ xs) sz) := by
  refine met_z (by decide +kernel) (Nat.le_of_ble_eq_true rfl) (fun p e s m args below meth c K hr0 hZ X hsz ls hl => ?_)
  have K : MC D ca p s m args meth c cX4_read 4 RX4 := K
  have hx := K.1
  have hb := K.2.1
  have hl : lv_has ls 4 [(0, .ref gq)] := hl
  generalize hQ : MQ below _ args s 0 0 _ = Q
  unfold f_X4_read at h0
  suffices Z : ∀ (H : Heap) (locs : List Loc) (X : RW D (wC ar ag ca (va_up P r R) G ++ xs) s.heap H locs), W p l e rm_X4_read s m args below meth c H locs 0 0 Q (F0 m 0 ls []) from Z _ _ X
  intro H locs X
  have J87 : ∀ (R_87 : RowS) (G_87 : GlbS) (H : Heap) (locs : List Loc) (X : RW D (wC ar ag ca (va_up P r R_87) G_87 ++ xs) s.heap H locs) (ls : Array Slot) (hl : lv_has ls 4 []) (h0 : b_X4_read_87 R_87 G_87 = some (R', G')), W p l e rm_X4_read s m args below meth c H locs 0 0 Q (F0 m 87 ls []) := by
    intro R_87 G_87 H locs X ls hl h0
    unfold b_X4_read_87 at h0
    have h0 := Option.some.inj h0
    obtain ⟨q_0, q_1⟩ := Prod.mk.inj h0
    subst q_0
    subst q_1
    subst hQ
    exact w_vret K hr0 X wC_fstx hsz dX4_read_87
  refine lv_aload_n hx hb dX4_read_0 rfl (lv_at hl 0 rfl) ?_
  refine g_gram4 K X hg 0 (by decide) rfl q499 dX4_read_1 ?_
  refine z_ldc K hZ 9 (by decide) ⟨rfl, rfl⟩ dX4_read_4 ?_
  obtain ⟨x1, ex1, h0⟩ := ob_out h0
  obtain ⟨Gv2, eGv2, h0⟩ := lt_out h0
  have kx1 := m_X5_takeWord l D ca ar ag z n (va_up P r R) G xs 9 (by decide) x1 ex1 H.size
  rw [← eGv2] at kx1
  refine z_callV K hZ X wC_fstx wC_fstx kx1 hl.1 1 q511 q512 q513 q21 q514 hv_X5_takeWord ⟨⟨Nat.le_of_ble_eq_true rfl, Nat.le_of_ble_eq_true rfl⟩, rfl, rfl⟩ (z_recvw K X (pl_glb (k := 3) (by decide)) rfl rfl) rfl rfl (Nat.le_of_ble_eq_true rfl) dX4_read_6 ⟨Nat.le_of_ble_eq_true rfl, Nat.le_of_ble_eq_true rfl⟩ rfl (fun H locs X => ?_)
  refine lv_aload_n hx hb dX4_read_9 rfl (lv_at hl 0 rfl) ?_
  refine g_gram4 K X hg 0 (by decide) rfl q499 dX4_read_10 ?_
  refine lv_iconst (v := 2) hx hb dX4_read_13 (by decide) ?_
  refine lv_bipush (v := 8) hx hb dX4_read_14 (by decide) ?_
  obtain ⟨x3, ex3, h0⟩ := ob_out h0
  obtain ⟨Gv4, eGv4, h0⟩ := lt_out h0
  have kx3 := m_X5_takeNumber l D ca ar ag n (va_up P r R) Gv2 xs 2 8 x3.1 x3.2 ex3 H.size
  rw [← eGv4] at kx3
  refine w_callV0 K X wC_fstx kx3 hl.1 2 q525 q526 q527 q21 q528 hv_X5_takeNumber ⟨⟨Nat.le_of_ble_eq_true rfl, Nat.le_of_ble_eq_true rfl⟩, rfl, rfl⟩ (pl_glb (k := 3) (by decide)) rfl rfl rfl rfl (Nat.le_of_ble_eq_true rfl) dX4_read_16 ⟨Nat.le_of_ble_eq_true rfl, Nat.le_of_ble_eq_true rfl⟩ rfl (fun H locs X => ?_)
  obtain ⟨x5, ex5, h0⟩ := lt_out h0
  refine w_int ex5 ?_
  refine lv_istore_n (lv' := [(1, .int x5), (0, .ref gq)]) hx hb dX4_read_19 rfl hl (by decide) rfl (fun ls hl => ?_)
  refine lv_aload_n hx hb dX4_read_20 rfl (lv_at hl 1 rfl) ?_
  refine g_gram4 K X hg 0 (by decide) rfl q499 dX4_read_21 ?_
  refine lv_iconst (v := 0) hx hb dX4_read_24 (by decide) ?_
  refine lv_ldc hx hb K.2.2.2.1 (K.2.2.2.2.1 _ q529) dX4_read_25 ?_
  obtain ⟨x6, ex6, h0⟩ := ob_out h0
  obtain ⟨Gv7, eGv7, h0⟩ := lt_out h0
  have kx6 := m_X5_takeNumber l D ca ar ag n (va_up P r R) Gv4 xs 0 99999 x6.1 x6.2 ex6 H.size
  rw [← eGv7] at kx6
  refine w_callV0 K X wC_fstx kx6 hl.1 2 q525 q526 q527 q21 q528 hv_X5_takeNumber ⟨⟨Nat.le_of_ble_eq_true rfl, Nat.le_of_ble_eq_true rfl⟩, rfl, rfl⟩ (pl_glb (k := 3) (by decide)) rfl rfl rfl rfl (Nat.le_of_ble_eq_true rfl) dX4_read_27 ⟨Nat.le_of_ble_eq_true rfl, Nat.le_of_ble_eq_true rfl⟩ rfl (fun H locs X => ?_)
  obtain ⟨x8, ex8, h0⟩ := lt_out h0
  refine w_int ex8 ?_
  refine lv_istore_n (lv' := [(2, .int x8), (1, .int x5), (0, .ref gq)]) hx hb dX4_read_30 rfl hl (by decide) rfl (fun ls hl => ?_)
  refine lv_aload_n hx hb dX4_read_31 rfl (lv_at hl 2 rfl) ?_
  refine g_gram4 K X hg 1 (by decide) rfl q500 dX4_read_32 ?_
  refine lv_iload_n hx hb dX4_read_35 rfl (lv_at hl 1 rfl) ?_
  refine lv_iload_n hx hb dX4_read_36 rfl (lv_at hl 0 rfl) ?_
  obtain ⟨x9, ex9, h0⟩ := ob_out h0
  obtain ⟨Rv10, eRv10, h0⟩ := lt_out h0
  have kx9 := m_X3_clear l D ca ar ag n P r R Gv7 xs hr x5 x8 x9 ex9 H.size
  rw [← eRv10] at kx9
  refine w_callV0 K X wC_fstx kx9 hl.1 2 q530 q262 q263 q17 q264 hv_X3_clear ⟨⟨Nat.le_of_ble_eq_true rfl, Nat.le_of_ble_eq_true rfl⟩, rfl, rfl⟩ (pl_rowo hr) rfl rfl rfl rfl (Nat.le_of_ble_eq_true rfl) dX4_read_37 ⟨Nat.le_of_ble_eq_true rfl, Nat.le_of_ble_eq_true rfl⟩ rfl (fun H locs X => ?_)
  refine lv_aload_n hx hb dX4_read_40 rfl (lv_at hl 2 rfl) ?_
  refine g_gram4 K X hg 0 (by decide) rfl q499 dX4_read_41 ?_
  refine lv_bipush (v := 59) hx hb dX4_read_44 (by decide) ?_
  obtain ⟨x11, ex11, h0⟩ := ob_out h0
  obtain ⟨Gv12, eGv12, h0⟩ := lt_out h0
  have kx11 := m_X5_takeSign l D ca ar ag n (va_up P r Rv10) Gv7 xs 59 x11 ex11 H.size
  rw [← eGv12] at kx11
  refine w_callV0 K X wC_fstx kx11 hl.1 1 q531 q532 q533 q21 q534 hv_X5_takeSign ⟨⟨Nat.le_of_ble_eq_true rfl, Nat.le_of_ble_eq_true rfl⟩, rfl, rfl⟩ (pl_glb (k := 3) (by decide)) rfl rfl rfl rfl (Nat.le_of_ble_eq_true rfl) dX4_read_46 ⟨Nat.le_of_ble_eq_true rfl, Nat.le_of_ble_eq_true rfl⟩ rfl (fun H locs X => ?_)
  refine lv_iconst (v := 0) hx hb dX4_read_49 (by decide) ?_
  refine lv_istore_n (lv' := [(3, .int 0), (2, .int x8), (1, .int x5), (0, .ref gq)]) hx hb dX4_read_50 rfl hl (by decide) rfl (fun ls hl => ?_)
  obtain ⟨e_1, he1, h0⟩ := ob_out h0
  have K51 : ∀ (k : Nat) (z51_3 : Int32) (Rz_51 : RowS) (Gz_51 : GlbS) (H : Heap) (locs : List Loc) (X : RW D (wC ar ag ca (va_up P r Rz_51) Gz_51 ++ xs) s.heap H locs) (ls : Array Slot) (hl : lv_has ls 4 [(0, .ref gq), (3, .int z51_3)]) (hw : wloop (fun t => l_X4_read_51 n t.1 t.2.1 t.2.2) k (z51_3, Rz_51, Gz_51) = some e_1), W p l e rm_X4_read s m args below meth c H locs 0 0 Q (F0 m 51 ls []) := by
    intro k
    induction k with
    | zero => intro z51_3 Rz_51 Gz_51 H locs X ls hl hw; exact (wloop_0 hw).elim
    | succ k ih1 =>
      intro z51_3 Rz_51 Gz_51 H locs X ls hl hw
      obtain ⟨x_1, h1, hx1⟩ := wloop_out hw
      have h1 : l_X4_read_51 n z51_3 Rz_51 Gz_51 = some x_1 := h1
      unfold l_X4_read_51 at h1
      refine lv_iload_n hx hb dX4_read_51 rfl (lv_at hl 1 rfl) ?_
      refine lv_sipush (v := 600) hx hb dX4_read_52 (by decide) ?_
      refine lv_icmp_ge (tgt := 87) hx hb dX4_read_55 (by decide) (fun c13 => ?_) (fun c13 => ?_)
      · have h1 := if_t c13 h1
        have q1 := wl_r h1 hx1
        exact J87 Rz_51 Gz_51 H locs X ls (lv_sub hl [] rfl) (by rw [q1] at h0; exact h0)
      · have h1 := if_f c13 h1
        refine lv_aload_n hx hb dX4_read_58 rfl (lv_at hl 0 rfl) ?_
        refine g_gram4 K X hg 0 (by decide) rfl q499 dX4_read_59 ?_
        obtain ⟨x14, ex14, h1⟩ := lt_out h1
        have kx14 := m_X5_goesOn l D ca ar ag (va_up P r Rz_51) Gz_51 xs x14 ex14.symm H.size
        refine w_callV0 K X wC_fstx kx14 hl.1 0 q539 q540 q541 q21 q542 hv_X5_goesOn ⟨⟨Nat.le_of_ble_eq_true rfl, Nat.le_of_ble_eq_true rfl⟩, rfl, rfl⟩ (pl_glb (k := 3) (by decide)) rfl rfl rfl rfl (Nat.le_of_ble_eq_true rfl) dX4_read_62 ⟨Nat.le_of_ble_eq_true rfl, Nat.le_of_ble_eq_true rfl⟩ rfl (fun H locs X => ?_)
        refine w_zeq (tgt := 87) K dX4_read_65 (by decide) (fun c15 => ?_) (fun c15 => ?_)
        · have h1 := if_f c15 h1
          have q1 := wl_r h1 hx1
          exact J87 Rz_51 Gz_51 H locs X ls (lv_sub hl [] rfl) (by rw [q1] at h0; exact h0)
        · have h1 := if_t c15 h1
          refine lv_aload_n hx hb dX4_read_68 rfl (lv_at hl 0 rfl) ?_
          obtain ⟨x16, ex16, h1⟩ := ob_out h1
          obtain ⟨Rv17, eRv17, h1⟩ := lt_out h1
          obtain ⟨Gv18, eGv18, h1⟩ := lt_out h1
          have kx16 := m_X4_readClause l D ca ar ag z n P r Rz_51 Gz_51 xs hr gq gj hg x16.1 x16.2 ex16 H.size
          rw [← eRv17, ← eGv18] at kx16
          refine z_callV K hZ X wC_fstx wC_fstx kx16 hl.1 0 q543 q545 q6 q33 q546 hv_X4_readClause ⟨⟨Nat.le_of_ble_eq_true rfl, Nat.le_of_ble_eq_true rfl⟩, rfl, rfl⟩ (z_recvw K X (pl_xs.trans hg) rfl rfl) rfl rfl (Nat.le_of_ble_eq_true rfl) dX4_read_69 ⟨Nat.le_of_ble_eq_true rfl, Nat.le_of_ble_eq_true rfl⟩ rfl (fun H locs X => ?_)
          refine lv_aload_n hx hb dX4_read_72 rfl (lv_at hl 0 rfl) ?_
          refine g_gram4 K X hg 0 (by decide) rfl q499 dX4_read_73 ?_
          refine lv_bipush (v := 59) hx hb dX4_read_76 (by decide) ?_
          obtain ⟨x19, ex19, h1⟩ := ob_out h1
          obtain ⟨Gv20, eGv20, h1⟩ := lt_out h1
          have kx19 := m_X5_takeSign l D ca ar ag n (va_up P r Rv17) Gv18 xs 59 x19 ex19 H.size
          rw [← eGv20] at kx19
          refine w_callV0 K X wC_fstx kx19 hl.1 1 q531 q532 q533 q21 q534 hv_X5_takeSign ⟨⟨Nat.le_of_ble_eq_true rfl, Nat.le_of_ble_eq_true rfl⟩, rfl, rfl⟩ (pl_glb (k := 3) (by decide)) rfl rfl rfl rfl (Nat.le_of_ble_eq_true rfl) dX4_read_78 ⟨Nat.le_of_ble_eq_true rfl, Nat.le_of_ble_eq_true rfl⟩ rfl (fun H locs X => ?_)
          obtain ⟨x21, ex21, h1⟩ := lt_out h1
          refine lv_iinc (v := x21) (lv' := [(3, .int x21), (0, .ref gq)]) hx hb dX4_read_81 hl (k := 1) rfl (by rw [ex21]; rfl) (by decide) rfl (fun ls hl => ?_)
          refine lv_goto (tgt := 51) hx hb dX4_read_84 (by decide) ?_
          exact ih1 x21 Rv17 Gv20 H locs X ls (lv_sub hl [1, 0] rfl) (wl_l h1 hx1)
  exact K51 n 0 Rv10 Gv12 H locs X ls (lv_sub hl [3, 0] rfl) he1
