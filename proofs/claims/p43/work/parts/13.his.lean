-- X0_clear
def f_X0_clear (P : RowsS) (G : GlbS) : GlbS :=
  lt (sg G 1 1 0) fun Gv1 =>
  lt (sg Gv1 1 2 0) fun Gv2 =>
  Gv2
abbrev rm_X0_clear : Room := { frames := 0, cells := 0, slots := 0, locals := 0 }
set_option maxRecDepth 100000 in
set_option maxHeartbeats 4000000 in
theorem m_X0_clear (l : Launch) (D : va_G) (ca : Nat → ClassId) (ar : Nat → Nat → Nat) (ag : Nat → Nat) (P : RowsS) (G : GlbS) (xs : va_W) (G' : GlbS) (h0 : f_X0_clear P G = G') (sz : Nat) : Met l yX0_clear (ws_ yX0_clear cX0_clear 1 none) rm_X0_clear (PCw D ca (wC ar ag ca P G ++ xs) sz [.ref (ag 1)]) (QMw D (wC ar ag ca P G ++ xs) (wC ar ag ca P (G') ++ xs) sz none) 0 0 (AL (wC ar ag ca P G ++ xs) sz) := by
  refine met_of (by decide) (Nat.le_of_ble_eq_true rfl) (fun p e s m args below meth c K hr0 X hsz ls hl => ?_)
  have K : MC D ca p s m args meth c cX0_clear 1 RX0 := K
  have hx := K.1
  have hb := K.2.1
  have hl : lv_has ls 1 [(0, .ref (ag 1))] := hl
  generalize hQ : MQ below _ args s 0 0 _ = Q
  unfold f_X0_clear at h0
  suffices Z : ∀ (H : Heap) (locs : List Loc) (X : RW D (wC ar ag ca P G ++ xs) s.heap H locs), W p l e rm_X0_clear s m args below meth c H locs 0 0 Q (F0 m 0 ls []) from Z _ _ X
  intro H locs X
  refine lv_aload_n hx hb dX0_clear_0 rfl (lv_at hl 0 rfl) ?_
  refine lv_iconst (v := 0) hx hb dX0_clear_1 (by decide) ?_
  obtain ⟨Gv1, eGv1, h0⟩ := lt_out h0
  refine p_hisi K X 1 (by decide) eGv1 q184 dX0_clear_2 (fun H locs X => ?_)
  refine lv_aload_n hx hb dX0_clear_5 rfl (lv_at hl 0 rfl) ?_
  refine lv_iconst (v := 0) hx hb dX0_clear_6 (by decide) ?_
  obtain ⟨Gv2, eGv2, h0⟩ := lt_out h0
  refine p_hisi K X 2 (by decide) eGv2 q185 dX0_clear_7 (fun H locs X => ?_)
  subst h0
  subst hQ
  exact w_vret K hr0 X wC_fstx hsz dX0_clear_10
-- X0_keep
def b_X0_keep_38  (P_38 : RowsS) (G_38 : GlbS) : Option (RowsS × GlbS) :=
  if 10 ≤ (G_38 1 2) then
    ob (f_J9_floorMod_7cf53 ((G_38 1 1) + 1) 10) fun x4 =>
    lt (sg G_38 1 1 x4) fun Gv5 =>
    some (P_38, Gv5)
  else
    lt (sg G_38 1 2 ((G_38 1 2) + 1)) fun Gv6 =>
    some (P_38, Gv6)
def f_X0_keep (n : Nat) (P : RowsS) (G : GlbS) (r1 : Nat) : Option (RowsS × GlbS) :=
  ob (f_J9_floorMod_7cf53 ((G 1 1) + (G 1 2)) 10) fun x1 =>
  if x1 < 0 then
    b_X0_keep_38 P G
  else
    if 10 ≤ x1 then
      b_X0_keep_38 P G
    else
      if ¬ r1 = (x1.toNatClampNeg + 3) then
        ob (f_X3_copyFrom n (P (x1.toNatClampNeg + 3)) (P r1)) fun x9 =>
        lt (va_up P (x1.toNatClampNeg + 3) x9) fun Pv10 =>
        b_X0_keep_38 Pv10 G
      else none
abbrev rm_X0_keep : Room := { frames := 3, cells := 0, slots := 0, locals := 66 }
set_option maxRecDepth 100000 in
set_option maxHeartbeats 4000000 in
theorem m_X0_keep (l : Launch) (D : va_G) (ca : Nat → ClassId) (ar : Nat → Nat → Nat) (ag : Nat → Nat) (n : Nat) (P : RowsS) (G : GlbS) (xs : va_W) (r1 : Nat) (hr1 : r1 < 13) (P' : RowsS) (G' : GlbS) (h0 : f_X0_keep n P G r1 = some (P', G')) (sz : Nat) : Met l yX0_keep (ws_ yX0_keep cX0_keep 3 none) rm_X0_keep (PCw D ca (wC ar ag ca P G ++ xs) sz [.ref (ag 1), .ref (ar r1 0)]) (QMw D (wC ar ag ca P G ++ xs) (wC ar ag ca (P') (G') ++ xs) sz none) 0 0 (AL (wC ar ag ca P G ++ xs) sz) := by
  refine met_of (by decide) (Nat.le_of_ble_eq_true rfl) (fun p e s m args below meth c K hr0 X hsz ls hl => ?_)
  have K : MC D ca p s m args meth c cX0_keep 3 RX0 := K
  have hx := K.1
  have hb := K.2.1
  have hl : lv_has ls 3 [(0, .ref (ag 1)), (1, .ref (ar r1 0))] := hl
  generalize hQ : MQ below _ args s 0 0 _ = Q
  unfold f_X0_keep at h0
  suffices Z : ∀ (H : Heap) (locs : List Loc) (X : RW D (wC ar ag ca P G ++ xs) s.heap H locs), W p l e rm_X0_keep s m args below meth c H locs 0 0 Q (F0 m 0 ls []) from Z _ _ X
  intro H locs X
  have J38 : ∀ (P_38 : RowsS) (G_38 : GlbS) (H : Heap) (locs : List Loc) (X : RW D (wC ar ag ca P_38 G_38 ++ xs) s.heap H locs) (ls : Array Slot) (hl : lv_has ls 3 [(0, .ref (ag 1))]) (h0 : b_X0_keep_38 P_38 G_38 = some (P', G')), W p l e rm_X0_keep s m args below meth c H locs 0 0 Q (F0 m 38 ls []) := by
    intro P_38 G_38 H locs X ls hl h0
    unfold b_X0_keep_38 at h0
    refine lv_aload_n hx hb dX0_keep_38 rfl (lv_at hl 0 rfl) ?_
    refine g_hisi K X 2 (by decide) q185 dX0_keep_39 ?_
    refine lv_bipush (v := 10) hx hb dX0_keep_42 (by decide) ?_
    refine lv_icmp_ge (tgt := 60) hx hb dX0_keep_44 (by decide) (fun c3 => ?_) (fun c3 => ?_)
    · have h0 := if_t c3 h0
      refine lv_aload_n hx hb dX0_keep_60 rfl (lv_at hl 0 rfl) ?_
      refine lv_aload_n hx hb dX0_keep_61 rfl (lv_at hl 0 rfl) ?_
      refine g_hisi K X 1 (by decide) q184 dX0_keep_62 ?_
      refine lv_iconst (v := 1) hx hb dX0_keep_65 (by decide) ?_
      refine lv_iadd hx hb dX0_keep_66 ?_
      refine lv_bipush (v := 10) hx hb dX0_keep_67 (by decide) ?_
      obtain ⟨x4, ex4, h0⟩ := ob_out h0
      have kx4 := m_J9_floorMod_7cf53 l D ca (wC ar ag ca P_38 G_38 ++ xs) ((G_38 1 1) + 1) 10 x4 ex4 H.size
      refine w_callS0 K X wC_fstx kx4 hl.1 2 q783 q784 q32 q785 hs_J9_floorMod_7cf53 ⟨⟨Nat.le_of_ble_eq_true rfl, Nat.le_of_ble_eq_true rfl⟩, rfl, rfl⟩ rfl rfl (Nat.le_of_ble_eq_true rfl) dX0_keep_69 ⟨Nat.le_of_ble_eq_true rfl, Nat.le_of_ble_eq_true rfl⟩ rfl (fun H locs X => ?_)
      obtain ⟨Gv5, eGv5, h0⟩ := lt_out h0
      refine p_hisi K X 1 (by decide) eGv5 q184 dX0_keep_72 (fun H locs X => ?_)
      have h0 := Option.some.inj h0
      obtain ⟨q_0, q_1⟩ := Prod.mk.inj h0
      subst q_0
      subst q_1
      subst hQ
      exact w_vret K hr0 X wC_fstx hsz dX0_keep_75
    · have h0 := if_f c3 h0
      refine lv_aload_n hx hb dX0_keep_47 rfl (lv_at hl 0 rfl) ?_
      refine lv_dup hx hb dX0_keep_48 rfl ?_
      refine g_hisi K X 2 (by decide) q185 dX0_keep_49 ?_
      refine lv_iconst (v := 1) hx hb dX0_keep_52 (by decide) ?_
      refine lv_iadd hx hb dX0_keep_53 ?_
      obtain ⟨Gv6, eGv6, h0⟩ := lt_out h0
      refine p_hisi K X 2 (by decide) eGv6 q185 dX0_keep_54 (fun H locs X => ?_)
      refine lv_goto (tgt := 75) hx hb dX0_keep_57 (by decide) ?_
      have h0 := Option.some.inj h0
      obtain ⟨q_0, q_1⟩ := Prod.mk.inj h0
      subst q_0
      subst q_1
      subst hQ
      exact w_vret K hr0 X wC_fstx hsz dX0_keep_75
  refine lv_aload_n hx hb dX0_keep_0 rfl (lv_at hl 0 rfl) ?_
  refine g_hisi K X 1 (by decide) q184 dX0_keep_1 ?_
  refine lv_aload_n hx hb dX0_keep_4 rfl (lv_at hl 0 rfl) ?_
  refine g_hisi K X 2 (by decide) q185 dX0_keep_5 ?_
  refine lv_iadd hx hb dX0_keep_8 ?_
  refine lv_bipush (v := 10) hx hb dX0_keep_9 (by decide) ?_
  obtain ⟨x1, ex1, h0⟩ := ob_out h0
  have kx1 := m_J9_floorMod_7cf53 l D ca (wC ar ag ca P G ++ xs) ((G 1 1) + (G 1 2)) 10 x1 ex1 H.size
  refine w_callS0 K X wC_fstx kx1 hl.1 2 q783 q784 q32 q785 hs_J9_floorMod_7cf53 ⟨⟨Nat.le_of_ble_eq_true rfl, Nat.le_of_ble_eq_true rfl⟩, rfl, rfl⟩ rfl rfl (Nat.le_of_ble_eq_true rfl) dX0_keep_11 ⟨Nat.le_of_ble_eq_true rfl, Nat.le_of_ble_eq_true rfl⟩ rfl (fun H locs X => ?_)
  refine lv_istore_n (lv' := [(2, .int x1), (0, .ref (ag 1)), (1, .ref (ar r1 0))]) hx hb dX0_keep_14 rfl hl (by decide) rfl (fun ls hl => ?_)
  refine lv_iload_n hx hb dX0_keep_15 rfl (lv_at hl 0 rfl) ?_
  refine lv_if_lt (tgt := 38) hx hb dX0_keep_16 (by decide) (fun c2 => ?_) (fun c2 => ?_)
  · have h0 := if_t c2 h0
    exact J38 P G H locs X ls (lv_sub hl [1] rfl) h0
  · have h0 := if_f c2 h0
    refine lv_iload_n hx hb dX0_keep_19 rfl (lv_at hl 0 rfl) ?_
    refine lv_aload_n hx hb dX0_keep_20 rfl (lv_at hl 1 rfl) ?_
    refine g_hisr K X q183 dX0_keep_21 ?_
    refine l_rows K X dX0_keep_24 ?_
    refine lv_icmp_ge (tgt := 38) hx hb dX0_keep_25 (by decide) (fun c7 => ?_) (fun c7 => ?_)
    · have h0 := if_t c7 h0
      exact J38 P G H locs X ls (lv_sub hl [1] rfl) h0
    · have h0 := if_f c7 h0
      refine lv_aload_n hx hb dX0_keep_28 rfl (lv_at hl 1 rfl) ?_
      refine g_hisr K X q183 dX0_keep_29 ?_
      refine lv_iload_n hx hb dX0_keep_32 rfl (lv_at hl 0 rfl) ?_
      refine a_rows K X (inb_2 c2 c7 (by decide)) dX0_keep_33 ?_
      refine lv_aload_n hx hb dX0_keep_34 rfl (lv_at hl 2 rfl) ?_
      obtain ⟨c8, h0⟩ := if_o h0
      obtain ⟨x9, ex9, h0⟩ := ob_out h0
      obtain ⟨Pv10, ePv10, h0⟩ := lt_out h0
      have kx9 := mC_X3_copyFrom l D ca ar ag n P (x1.toNatClampNeg + 3) G xs (in_lt13 (inb_2 c2 c7 (by decide))) r1 hr1 c8 x9 ex9 H.size
      rw [← ePv10] at kx9
      refine w_callV0 K X wC_fstx kx9 hl.1 1 q786 q597 q598 q17 q599 hv_X3_copyFrom ⟨⟨Nat.le_of_ble_eq_true rfl, Nat.le_of_ble_eq_true rfl⟩, rfl, rfl⟩ (pl_rowo (in_lt13 (inb_2 c2 c7 (by decide)))) rfl rfl rfl rfl (Nat.le_of_ble_eq_true rfl) dX0_keep_35 ⟨Nat.le_of_ble_eq_true rfl, Nat.le_of_ble_eq_true rfl⟩ rfl (fun H locs X => ?_)
      exact J38 Pv10 G H locs X ls (lv_sub hl [1] rfl) h0
