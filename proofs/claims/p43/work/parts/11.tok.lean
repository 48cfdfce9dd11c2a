-- X5_hasRoomFor
def f_X5_hasRoomFor (G : GlbS) (a1 : Int32) : Bool :=
  if 600 < ((G 3 1) + a1) then
    false
  else
    true
abbrev rm_X5_hasRoomFor : Room := { frames := 0, cells := 0, slots := 0, locals := 0 }
set_option maxRecDepth 100000 in
set_option maxHeartbeats 4000000 in
theorem m_X5_hasRoomFor (l : Launch) (D : va_G) (ca : Nat → ClassId) (ar : Nat → Nat → Nat) (ag : Nat → Nat) (P : RowsS) (G : GlbS) (xs : va_W) (a1 : Int32) (res : Bool) (h0 : f_X5_hasRoomFor G a1 = res) (sz : Nat) : Met l yX5_hasRoomFor (ws_ yX5_hasRoomFor cX5_hasRoomFor 2 (some .boolean)) rm_X5_hasRoomFor (PCw D ca (wC ar ag ca P G ++ xs) sz [.ref (ag 3), .int a1]) (QMw D (wC ar ag ca P G ++ xs) (wC ar ag ca P G ++ xs) sz (some (.int (b2i res)))) 0 0 (AL (wC ar ag ca P G ++ xs) sz) := by
  refine met_of (by decide) (Nat.le_of_ble_eq_true rfl) (fun p e s m args below meth c K hr0 X hsz ls hl => ?_)
  have K : MC D ca p s m args meth c cX5_hasRoomFor 2 RX5 := K
  have hx := K.1
  have hb := K.2.1
  have hl : lv_has ls 2 [(0, .ref (ag 3)), (1, .int a1)] := hl
  generalize hQ : MQ below _ args s 0 0 _ = Q
  unfold f_X5_hasRoomFor at h0
  suffices Z : ∀ (H : Heap) (locs : List Loc) (X : RW D (wC ar ag ca P G ++ xs) s.heap H locs), W p l e rm_X5_hasRoomFor s m args below meth c H locs 0 0 Q (F0 m 0 ls []) from Z _ _ X
  intro H locs X
  refine lv_aload_n hx hb dX5_hasRoomFor_0 rfl (lv_at hl 0 rfl) ?_
  refine g_toki K X 1 (by decide) q200 dX5_hasRoomFor_1 ?_
  refine lv_iload_n hx hb dX5_hasRoomFor_4 rfl (lv_at hl 1 rfl) ?_
  refine lv_iadd hx hb dX5_hasRoomFor_5 ?_
  refine lv_aload_n hx hb dX5_hasRoomFor_6 rfl (lv_at hl 0 rfl) ?_
  refine g_tokr K X q199 dX5_hasRoomFor_7 ?_
  refine l_bytes K X dX5_hasRoomFor_10 ?_
  refine lv_icmp_gt (tgt := 18) hx hb dX5_hasRoomFor_11 (by decide) (fun c1 => ?_) (fun c1 => ?_)
  · have h0 := if_t c1 h0
    refine lv_iconst (v := 0) hx hb dX5_hasRoomFor_18 (by decide) ?_
    subst h0
    subst hQ
    refine w_int (y := b2i false) (by decide) ?_
    exact w_zret K hr0 X wC_fstx hsz (b2i_nar _) dX5_hasRoomFor_19
  · have h0 := if_f c1 h0
    refine lv_iconst (v := 1) hx hb dX5_hasRoomFor_14 (by decide) ?_
    refine lv_goto (tgt := 19) hx hb dX5_hasRoomFor_15 (by decide) ?_
    subst h0
    subst hQ
    refine w_int (y := b2i true) (by decide) ?_
    exact w_zret K hr0 X wC_fstx hsz (b2i_nar _) dX5_hasRoomFor_19
-- X5_append
def b_X5_append_55  (G_55 : GlbS) : Option GlbS :=
  some G_55
def b_X5_append_49  (y49_l2 : Int32) (G_49 : GlbS) : Option ((Int32 × GlbS) ⊕ GlbS) :=
  lt (y49_l2 + (-8)) fun x3 =>
  some (.inl (x3, G_49))
def l_X5_append_3 (a1 : Int32) (z3_2 : Int32) (Gz_3 : GlbS) : Option ((Int32 × GlbS) ⊕ GlbS) :=
  if z3_2 < 0 then
    some (.inr Gz_3)
  else
    if (Gz_3 3 1) < 0 then
      b_X5_append_49 z3_2 Gz_3
    else
      if 600 ≤ (Gz_3 3 1) then
        b_X5_append_49 z3_2 Gz_3
      else
        lt (sg Gz_3 4 (Gz_3 3 1).toNatClampNeg ((a1 >>> (z3_2 &&& 31)).toInt8.toInt32)) fun Gv5 =>
        lt (sg Gv5 3 1 ((Gv5 3 1) + 1)) fun Gv6 =>
        b_X5_append_49 z3_2 Gv6
def f_X5_append (n : Nat) (G : GlbS) (a1 : Int32) : Option GlbS :=
  ob (wloop (fun t => l_X5_append_3 a1 t.1 t.2) n (24, G)) (fun t => b_X5_append_55 t)
abbrev rm_X5_append : Room := { frames := 0, cells := 0, slots := 0, locals := 0 }
set_option maxRecDepth 100000 in
set_option maxHeartbeats 4000000 in
theorem m_X5_append (l : Launch) (D : va_G) (ca : Nat → ClassId) (ar : Nat → Nat → Nat) (ag : Nat → Nat) (n : Nat) (P : RowsS) (G : GlbS) (xs : va_W) (a1 : Int32) (G' : GlbS) (h0 : f_X5_append n G a1 = some G') (sz : Nat) : Met l yX5_append (ws_ yX5_append cX5_append 3 none) rm_X5_append (PCw D ca (wC ar ag ca P G ++ xs) sz [.ref (ag 3), .int a1]) (QMw D (wC ar ag ca P G ++ xs) (wC ar ag ca P (G') ++ xs) sz none) 0 0 (AL (wC ar ag ca P G ++ xs) sz) := by
  refine met_of (by decide) (Nat.le_of_ble_eq_true rfl) (fun p e s m args below meth c K hr0 X hsz ls hl => ?_)
  have K : MC D ca p s m args meth c cX5_append 3 RX5 := K
  have hx := K.1
  have hb := K.2.1
  have hl : lv_has ls 3 [(0, .ref (ag 3)), (1, .int a1)] := hl
  generalize hQ : MQ below _ args s 0 0 _ = Q
  unfold f_X5_append at h0
  suffices Z : ∀ (H : Heap) (locs : List Loc) (X : RW D (wC ar ag ca P G ++ xs) s.heap H locs), W p l e rm_X5_append s m args below meth c H locs 0 0 Q (F0 m 0 ls []) from Z _ _ X
  intro H locs X
  have J55 : ∀ (G_55 : GlbS) (H : Heap) (locs : List Loc) (X : RW D (wC ar ag ca P G_55 ++ xs) s.heap H locs) (ls : Array Slot) (hl : lv_has ls 3 []) (h0 : b_X5_append_55 G_55 = some G'), W p l e rm_X5_append s m args below meth c H locs 0 0 Q (F0 m 55 ls []) := by
    intro G_55 H locs X ls hl h0
    unfold b_X5_append_55 at h0
    have h0 := Option.some.inj h0
    subst h0
    subst hQ
    exact w_vret K hr0 X wC_fstx hsz dX5_append_55
  refine lv_bipush (v := 24) hx hb dX5_append_0 (by decide) ?_
  refine lv_istore_n (lv' := [(2, .int 24), (0, .ref (ag 3)), (1, .int a1)]) hx hb dX5_append_2 rfl hl (by decide) rfl (fun ls hl => ?_)
  obtain ⟨e_1, he1, h0⟩ := ob_out h0
  have K3 : ∀ (k : Nat) (z3_2 : Int32) (Gz_3 : GlbS) (H : Heap) (locs : List Loc) (X : RW D (wC ar ag ca P Gz_3 ++ xs) s.heap H locs) (ls : Array Slot) (hl : lv_has ls 3 [(0, .ref (ag 3)), (1, .int a1), (2, .int z3_2)]) (hw : wloop (fun t => l_X5_append_3 a1 t.1 t.2) k (z3_2, Gz_3) = some e_1), W p l e rm_X5_append s m args below meth c H locs 0 0 Q (F0 m 3 ls []) := by
    intro k
    induction k with
    | zero => intro z3_2 Gz_3 H locs X ls hl hw; exact (wloop_0 hw).elim
    | succ k ih1 =>
      intro z3_2 Gz_3 H locs X ls hl hw
      obtain ⟨x_1, h1, hx1⟩ := wloop_out hw
      have h1 : l_X5_append_3 a1 z3_2 Gz_3 = some x_1 := h1
      unfold l_X5_append_3 at h1
      have J49 : ∀ (y49_l2 : Int32) (G_49 : GlbS) (H : Heap) (locs : List Loc) (X : RW D (wC ar ag ca P G_49 ++ xs) s.heap H locs) (ls : Array Slot) (hl : lv_has ls 3 [(0, .ref (ag 3)), (1, .int a1), (2, .int y49_l2)]) (h1 : b_X5_append_49 y49_l2 G_49 = some x_1), W p l e rm_X5_append s m args below meth c H locs 0 0 Q (F0 m 49 ls []) := by
        intro y49_l2 G_49 H locs X ls hl h1
        unfold b_X5_append_49 at h1
        obtain ⟨x3, ex3, h1⟩ := lt_out h1
        refine lv_iinc (v := x3) (lv' := [(2, .int x3), (0, .ref (ag 3)), (1, .int a1)]) hx hb dX5_append_49 hl (k := 2) rfl (by rw [ex3]; rfl) (by decide) rfl (fun ls hl => ?_)
        refine lv_goto (tgt := 3) hx hb dX5_append_52 (by decide) ?_
        exact ih1 x3 G_49 H locs X ls (lv_sub hl [1, 2, 0] rfl) (wl_l h1 hx1)
      refine lv_iload_n hx hb dX5_append_3 rfl (lv_at hl 2 rfl) ?_
      refine lv_if_lt (tgt := 55) hx hb dX5_append_4 (by decide) (fun c1 => ?_) (fun c1 => ?_)
      · have h1 := if_t c1 h1
        have q1 := wl_r h1 hx1
        exact J55 Gz_3 H locs X ls (lv_sub hl [] rfl) (by rw [q1] at h0; exact h0)
      · have h1 := if_f c1 h1
        refine lv_aload_n hx hb dX5_append_7 rfl (lv_at hl 0 rfl) ?_
        refine g_toki K X 1 (by decide) q200 dX5_append_8 ?_
        refine lv_if_lt (tgt := 49) hx hb dX5_append_11 (by decide) (fun c2 => ?_) (fun c2 => ?_)
        · have h1 := if_t c2 h1
          exact J49 z3_2 Gz_3 H locs X ls (lv_sub hl [0, 1, 2] rfl) h1
        · have h1 := if_f c2 h1
          refine lv_aload_n hx hb dX5_append_14 rfl (lv_at hl 0 rfl) ?_
          refine g_toki K X 1 (by decide) q200 dX5_append_15 ?_
          refine lv_aload_n hx hb dX5_append_18 rfl (lv_at hl 0 rfl) ?_
          refine g_tokr K X q199 dX5_append_19 ?_
          refine l_bytes K X dX5_append_22 ?_
          refine lv_icmp_ge (tgt := 49) hx hb dX5_append_23 (by decide) (fun c4 => ?_) (fun c4 => ?_)
          · have h1 := if_t c4 h1
            exact J49 z3_2 Gz_3 H locs X ls (lv_sub hl [0, 1, 2] rfl) h1
          · have h1 := if_f c4 h1
            refine lv_aload_n hx hb dX5_append_26 rfl (lv_at hl 0 rfl) ?_
            refine g_tokr K X q199 dX5_append_27 ?_
            refine lv_aload_n hx hb dX5_append_30 rfl (lv_at hl 0 rfl) ?_
            refine g_toki K X 1 (by decide) q200 dX5_append_31 ?_
            refine lv_iload_n hx hb dX5_append_34 rfl (lv_at hl 1 rfl) ?_
            refine lv_iload_n hx hb dX5_append_35 rfl (lv_at hl 2 rfl) ?_
            refine lv_ishr hx hb dX5_append_36 ?_
            refine lv_i2b hx hb dX5_append_37 rfl ?_
            obtain ⟨Gv5, eGv5, h1⟩ := lt_out h1
            refine s_bytes K X (inb_2 c2 c4 (by decide)) (b8_8 _) eGv5 dX5_append_38 (fun H locs X => ?_)
            refine lv_aload_n hx hb dX5_append_39 rfl (lv_at hl 0 rfl) ?_
            refine lv_dup hx hb dX5_append_40 rfl ?_
            refine g_toki K X 1 (by decide) q200 dX5_append_41 ?_
            refine lv_iconst (v := 1) hx hb dX5_append_44 (by decide) ?_
            refine lv_iadd hx hb dX5_append_45 ?_
            obtain ⟨Gv6, eGv6, h1⟩ := lt_out h1
            refine p_toki K X 1 (by decide) eGv6 q200 dX5_append_46 (fun H locs X => ?_)
            exact J49 z3_2 Gv6 H locs X ls (lv_sub hl [0, 1, 2] rfl) h1
  exact K3 n 24 G H locs X ls (lv_sub hl [1, 2, 0] rfl) he1
-- X5_empty
def f_X5_empty (G : GlbS) : GlbS :=
  lt (sg G 3 1 0) fun Gv1 =>
  Gv1
abbrev rm_X5_empty : Room := { frames := 0, cells := 0, slots := 0, locals := 0 }
set_option maxRecDepth 100000 in
set_option maxHeartbeats 4000000 in
theorem m_X5_empty (l : Launch) (D : va_G) (ca : Nat → ClassId) (ar : Nat → Nat → Nat) (ag : Nat → Nat) (P : RowsS) (G : GlbS) (xs : va_W) (G' : GlbS) (h0 : f_X5_empty G = G') (sz : Nat) : Met l yX5_empty (ws_ yX5_empty cX5_empty 1 none) rm_X5_empty (PCw D ca (wC ar ag ca P G ++ xs) sz [.ref (ag 3)]) (QMw D (wC ar ag ca P G ++ xs) (wC ar ag ca P (G') ++ xs) sz none) 0 0 (AL (wC ar ag ca P G ++ xs) sz) := by
  refine met_of (by decide) (Nat.le_of_ble_eq_true rfl) (fun p e s m args below meth c K hr0 X hsz ls hl => ?_)
  have K : MC D ca p s m args meth c cX5_empty 1 RX5 := K
  have hx := K.1
  have hb := K.2.1
  have hl : lv_has ls 1 [(0, .ref (ag 3))] := hl
  generalize hQ : MQ below _ args s 0 0 _ = Q
  unfold f_X5_empty at h0
  suffices Z : ∀ (H : Heap) (locs : List Loc) (X : RW D (wC ar ag ca P G ++ xs) s.heap H locs), W p l e rm_X5_empty s m args below meth c H locs 0 0 Q (F0 m 0 ls []) from Z _ _ X
  intro H locs X
  refine lv_aload_n hx hb dX5_empty_0 rfl (lv_at hl 0 rfl) ?_
  refine lv_iconst (v := 0) hx hb dX5_empty_1 (by decide) ?_
  obtain ⟨Gv1, eGv1, h0⟩ := lt_out h0
  refine p_toki K X 1 (by decide) eGv1 q200 dX5_empty_2 (fun H locs X => ?_)
  subst h0
  subst hQ
  exact w_vret K hr0 X wC_fstx hsz dX5_empty_5
-- X5_byteAt
def f_X5_byteAt (G : GlbS) (a1 : Int32) : Int32 :=
  if a1 < 0 then
    0
  else
    if 600 ≤ a1 then
      0
    else
      (G 4 a1.toNatClampNeg)
abbrev rm_X5_byteAt : Room := { frames := 0, cells := 0, slots := 0, locals := 0 }
set_option maxRecDepth 100000 in
set_option maxHeartbeats 4000000 in
theorem m_X5_byteAt (l : Launch) (D : va_G) (ca : Nat → ClassId) (ar : Nat → Nat → Nat) (ag : Nat → Nat) (P : RowsS) (G : GlbS) (xs : va_W) (a1 : Int32) (res : Int32) (h0 : f_X5_byteAt G a1 = res) (sz : Nat) : Met l yX5_byteAt (ws_ yX5_byteAt cX5_byteAt 2 (some .int)) rm_X5_byteAt (PCw D ca (wC ar ag ca P G ++ xs) sz [.ref (ag 3), .int a1]) (QMw D (wC ar ag ca P G ++ xs) (wC ar ag ca P G ++ xs) sz (some (.int res))) 0 0 (AL (wC ar ag ca P G ++ xs) sz) := by
  refine met_of (by decide) (Nat.le_of_ble_eq_true rfl) (fun p e s m args below meth c K hr0 X hsz ls hl => ?_)
  have K : MC D ca p s m args meth c cX5_byteAt 2 RX5 := K
  have hx := K.1
  have hb := K.2.1
  have hl : lv_has ls 2 [(0, .ref (ag 3)), (1, .int a1)] := hl
  generalize hQ : MQ below _ args s 0 0 _ = Q
  unfold f_X5_byteAt at h0
  suffices Z : ∀ (H : Heap) (locs : List Loc) (X : RW D (wC ar ag ca P G ++ xs) s.heap H locs), W p l e rm_X5_byteAt s m args below meth c H locs 0 0 Q (F0 m 0 ls []) from Z _ _ X
  intro H locs X
  refine lv_iload_n hx hb dX5_byteAt_0 rfl (lv_at hl 1 rfl) ?_
  refine lv_if_lt (tgt := 22) hx hb dX5_byteAt_1 (by decide) (fun c1 => ?_) (fun c1 => ?_)
  · have h0 := if_t c1 h0
    refine lv_iconst (v := 0) hx hb dX5_byteAt_22 (by decide) ?_
    subst h0
    subst hQ
    exact w_iret K hr0 X wC_fstx hsz dX5_byteAt_23
  · have h0 := if_f c1 h0
    refine lv_iload_n hx hb dX5_byteAt_4 rfl (lv_at hl 1 rfl) ?_
    refine lv_aload_n hx hb dX5_byteAt_5 rfl (lv_at hl 0 rfl) ?_
    refine g_tokr K X q199 dX5_byteAt_6 ?_
    refine l_bytes K X dX5_byteAt_9 ?_
    refine lv_icmp_ge (tgt := 22) hx hb dX5_byteAt_10 (by decide) (fun c2 => ?_) (fun c2 => ?_)
    · have h0 := if_t c2 h0
      refine lv_iconst (v := 0) hx hb dX5_byteAt_22 (by decide) ?_
      subst h0
      subst hQ
      exact w_iret K hr0 X wC_fstx hsz dX5_byteAt_23
    · have h0 := if_f c2 h0
      refine lv_aload_n hx hb dX5_byteAt_13 rfl (lv_at hl 0 rfl) ?_
      refine g_tokr K X q199 dX5_byteAt_14 ?_
      refine lv_iload_n hx hb dX5_byteAt_17 rfl (lv_at hl 1 rfl) ?_
      refine a_bytes K X (inb_2 c1 c2 (by decide)) dX5_byteAt_18 ?_
      refine lv_goto (tgt := 23) hx hb dX5_byteAt_19 (by decide) ?_
      subst h0
      subst hQ
      exact w_iret K hr0 X wC_fstx hsz dX5_byteAt_23
-- X5_isDigit
def f_X5_isDigit (a1 : Int32) : Bool :=
  if a1 < 48 then
    false
  else
    if 57 < a1 then
      false
    else
      true
abbrev rm_X5_isDigit : Room := { frames := 0, cells := 0, slots := 0, locals := 0 }
set_option maxRecDepth 100000 in
set_option maxHeartbeats 4000000 in
theorem m_X5_isDigit (l : Launch) (D : va_G) (ca : Nat → ClassId) (ws : va_W) (a1 : Int32) (res : Bool) (h0 : f_X5_isDigit a1 = res) (sz : Nat) : Met l yX5_isDigit (ws_ yX5_isDigit cX5_isDigit 1 (some .boolean)) rm_X5_isDigit (PCw D ca (ws) sz [.int a1]) (QMw D (ws) (ws) sz (some (.int (b2i res)))) 0 0 (AL (ws) sz) := by
  refine met_of (by decide) (Nat.le_of_ble_eq_true rfl) (fun p e s m args below meth c K hr0 X hsz ls hl => ?_)
  have K : MC D ca p s m args meth c cX5_isDigit 1 RX5 := K
  have hx := K.1
  have hb := K.2.1
  have hl : lv_has ls 1 [(0, .int a1)] := hl
  generalize hQ : MQ below _ args s 0 0 _ = Q
  unfold f_X5_isDigit at h0
  suffices Z : ∀ (H : Heap) (locs : List Loc) (X : RW D (ws) s.heap H locs), W p l e rm_X5_isDigit s m args below meth c H locs 0 0 Q (F0 m 0 ls []) from Z _ _ X
  intro H locs X
  refine lv_iload_n hx hb dX5_isDigit_0 rfl (lv_at hl 0 rfl) ?_
  refine lv_bipush (v := 48) hx hb dX5_isDigit_1 (by decide) ?_
  refine lv_icmp_lt (tgt := 16) hx hb dX5_isDigit_3 (by decide) (fun c1 => ?_) (fun c1 => ?_)
  · have h0 := if_t c1 h0
    refine lv_iconst (v := 0) hx hb dX5_isDigit_16 (by decide) ?_
    subst h0
    subst hQ
    refine w_int (y := b2i false) (by decide) ?_
    exact w_zret K hr0 X rfl hsz (b2i_nar _) dX5_isDigit_17
  · have h0 := if_f c1 h0
    refine lv_iload_n hx hb dX5_isDigit_6 rfl (lv_at hl 0 rfl) ?_
    refine lv_bipush (v := 57) hx hb dX5_isDigit_7 (by decide) ?_
    refine lv_icmp_gt (tgt := 16) hx hb dX5_isDigit_9 (by decide) (fun c2 => ?_) (fun c2 => ?_)
    · have h0 := if_t c2 h0
      refine lv_iconst (v := 0) hx hb dX5_isDigit_16 (by decide) ?_
      subst h0
      subst hQ
      refine w_int (y := b2i false) (by decide) ?_
      exact w_zret K hr0 X rfl hsz (b2i_nar _) dX5_isDigit_17
    · have h0 := if_f c2 h0
      refine lv_iconst (v := 1) hx hb dX5_isDigit_12 (by decide) ?_
      refine lv_goto (tgt := 17) hx hb dX5_isDigit_13 (by decide) ?_
      subst h0
      subst hQ
      refine w_int (y := b2i true) (by decide) ?_
      exact w_zret K hr0 X rfl hsz (b2i_nar _) dX5_isDigit_17
-- X5_isLetter
def f_X5_isLetter (a1 : Int32) : Bool :=
  if a1 < 97 then
    false
  else
    if 122 < a1 then
      false
    else
      true
abbrev rm_X5_isLetter : Room := { frames := 0, cells := 0, slots := 0, locals := 0 }
set_option maxRecDepth 100000 in
set_option maxHeartbeats 4000000 in
theorem m_X5_isLetter (l : Launch) (D : va_G) (ca : Nat → ClassId) (ws : va_W) (a1 : Int32) (res : Bool) (h0 : f_X5_isLetter a1 = res) (sz : Nat) : Met l yX5_isLetter (ws_ yX5_isLetter cX5_isLetter 1 (some .boolean)) rm_X5_isLetter (PCw D ca (ws) sz [.int a1]) (QMw D (ws) (ws) sz (some (.int (b2i res)))) 0 0 (AL (ws) sz) := by
  refine met_of (by decide) (Nat.le_of_ble_eq_true rfl) (fun p e s m args below meth c K hr0 X hsz ls hl => ?_)
  have K : MC D ca p s m args meth c cX5_isLetter 1 RX5 := K
  have hx := K.1
  have hb := K.2.1
  have hl : lv_has ls 1 [(0, .int a1)] := hl
  generalize hQ : MQ below _ args s 0 0 _ = Q
  unfold f_X5_isLetter at h0
  suffices Z : ∀ (H : Heap) (locs : List Loc) (X : RW D (ws) s.heap H locs), W p l e rm_X5_isLetter s m args below meth c H locs 0 0 Q (F0 m 0 ls []) from Z _ _ X
  intro H locs X
  refine lv_iload_n hx hb dX5_isLetter_0 rfl (lv_at hl 0 rfl) ?_
  refine lv_bipush (v := 97) hx hb dX5_isLetter_1 (by decide) ?_
  refine lv_icmp_lt (tgt := 16) hx hb dX5_isLetter_3 (by decide) (fun c1 => ?_) (fun c1 => ?_)
  · have h0 := if_t c1 h0
    refine lv_iconst (v := 0) hx hb dX5_isLetter_16 (by decide) ?_
    subst h0
    subst hQ
    refine w_int (y := b2i false) (by decide) ?_
    exact w_zret K hr0 X rfl hsz (b2i_nar _) dX5_isLetter_17
  · have h0 := if_f c1 h0
    refine lv_iload_n hx hb dX5_isLetter_6 rfl (lv_at hl 0 rfl) ?_
    refine lv_bipush (v := 122) hx hb dX5_isLetter_7 (by decide) ?_
    refine lv_icmp_gt (tgt := 16) hx hb dX5_isLetter_9 (by decide) (fun c2 => ?_) (fun c2 => ?_)
    · have h0 := if_t c2 h0
      refine lv_iconst (v := 0) hx hb dX5_isLetter_16 (by decide) ?_
      subst h0
      subst hQ
      refine w_int (y := b2i false) (by decide) ?_
      exact w_zret K hr0 X rfl hsz (b2i_nar _) dX5_isLetter_17
    · have h0 := if_f c2 h0
      refine lv_iconst (v := 1) hx hb dX5_isLetter_12 (by decide) ?_
      refine lv_goto (tgt := 17) hx hb dX5_isLetter_13 (by decide) ?_
      subst h0
      subst hQ
      refine w_int (y := b2i true) (by decide) ?_
      exact w_zret K hr0 X rfl hsz (b2i_nar _) dX5_isLetter_17
-- X5_advance
def b_X5_advance_250  (G_250 : GlbS) : Option GlbS :=
  some G_250
def b_X5_advance_219  (y219_s1 : Int32) (G_219 : GlbS) : Option (GlbS ⊕ GlbS) :=
  lt (sg G_219 3 6 y219_s1) fun Gv20 =>
  lt (sg Gv20 3 3 ((Gv20 3 3) + 1)) fun Gv21 =>
  some (.inl Gv21)
def l_X5_advance_158  (Gz_158 : GlbS) : Option (GlbS ⊕ GlbS) :=
  if (Gz_158 3 2) ≤ (Gz_158 3 3) then
    some (.inr Gz_158)
  else
    lt (f_X5_byteAt Gz_158 (Gz_158 3 3)) fun x15 =>
    lt (f_X5_isDigit x15) fun x16 =>
    if x16 = true then
      if (Gz_158 3 6) ≤ 9999999 then
        lt (f_X5_byteAt Gz_158 (Gz_158 3 3)) fun x19 =>
        b_X5_advance_219 ((((Gz_158 3 6) * 10) + x19) - 48) Gz_158
      else
        b_X5_advance_219 (Gz_158 3 6) Gz_158
    else
      some (.inr Gz_158)
def l_X5_advance_101  (Gz_101 : GlbS) : Option (GlbS ⊕ GlbS) :=
  if (Gz_101 3 2) ≤ (Gz_101 3 3) then
    some (.inr Gz_101)
  else
    lt (f_X5_byteAt Gz_101 (Gz_101 3 3)) fun x24 =>
    lt (f_X5_isLetter x24) fun x25 =>
    if x25 = true then
      lt (sg Gz_101 3 3 ((Gz_101 3 3) + 1)) fun Gv27 =>
      some (.inl Gv27)
    else
      some (.inr Gz_101)
def b_X5_advance_50 (n : Nat) (G_50 : GlbS) : Option GlbS :=
  lt (sg G_50 3 4 (G_50 3 3)) fun Gv2 =>
  lt (sg Gv2 3 6 0) fun Gv3 =>
  if (Gv3 3 3) < (Gv3 3 2) then
    lt (f_X5_byteAt Gv3 (Gv3 3 3)) fun x5 =>
    lt (f_X5_isLetter x5) fun x6 =>
    if x6 = true then
      lt (sg Gv3 3 5 1) fun Gv22 =>
      ob (wloop (fun t => l_X5_advance_101 t) n Gv22) (fun t => b_X5_advance_250 t)
    else
      lt (f_X5_byteAt Gv3 (Gv3 3 3)) fun x8 =>
      lt (f_X5_isDigit x8) fun x9 =>
      if x9 = true then
        lt (sg Gv3 3 5 2) fun Gv13 =>
        ob (wloop (fun t => l_X5_advance_158 t) n Gv13) (fun t => b_X5_advance_250 t)
      else
        lt (sg Gv3 3 5 3) fun Gv11 =>
        lt (sg Gv11 3 3 ((Gv11 3 3) + 1)) fun Gv12 =>
        b_X5_advance_250 Gv12
  else
    lt (sg Gv3 3 5 0) fun Gv28 =>
    b_X5_advance_250 Gv28
def b_X5_advance_37  (G_37 : GlbS) : Option (GlbS ⊕ GlbS) :=
  lt (sg G_37 3 3 ((G_37 3 3) + 1)) fun Gv31 =>
  some (.inl Gv31)
def l_X5_advance_0  (Gz_0 : GlbS) : Option (GlbS ⊕ GlbS) :=
  if (Gz_0 3 2) ≤ (Gz_0 3 3) then
    some (.inr Gz_0)
  else
    lt (f_X5_byteAt Gz_0 (Gz_0 3 3)) fun x29 =>
    if x29 = 32 then
      b_X5_advance_37 Gz_0
    else
      lt (f_X5_byteAt Gz_0 (Gz_0 3 3)) fun x32 =>
      if x32 = 10 then
        b_X5_advance_37 Gz_0
      else
        some (.inr Gz_0)
def f_X5_advance (n : Nat) (G : GlbS) : Option GlbS :=
  ob (wloop (fun t => l_X5_advance_0 t) n G) (fun t => b_X5_advance_50 n t)
abbrev rm_X5_advance : Room := { frames := 1, cells := 0, slots := 0, locals := 21 }
set_option maxRecDepth 100000 in
set_option maxHeartbeats 4000000 in
theorem m_X5_advance (l : Launch) (D : va_G) (ca : Nat → ClassId) (ar : Nat → Nat → Nat) (ag : Nat → Nat) (n : Nat) (P : RowsS) (G : GlbS) (xs : va_W) (G' : GlbS) (h0 : f_X5_advance n G = some G') (sz : Nat) : Met l yX5_advance (ws_ yX5_advance cX5_advance 1 none) rm_X5_advance (PCw D ca (wC ar ag ca P G ++ xs) sz [.ref (ag 3)]) (QMw D (wC ar ag ca P G ++ xs) (wC ar ag ca P (G') ++ xs) sz none) 0 0 (AL (wC ar ag ca P G ++ xs) sz) := by
  refine met_of (by decide) (Nat.le_of_ble_eq_true rfl) (fun p e s m args below meth c K hr0 X hsz ls hl => ?_)
  have K : MC D ca p s m args meth c cX5_advance 1 RX5 := K
  have hx := K.1
  have hb := K.2.1
  have hl : lv_has ls 1 [(0, .ref (ag 3))] := hl
  generalize hQ : MQ below _ args s 0 0 _ = Q
  unfold f_X5_advance at h0
  suffices Z : ∀ (H : Heap) (locs : List Loc) (X : RW D (wC ar ag ca P G ++ xs) s.heap H locs), W p l e rm_X5_advance s m args below meth c H locs 0 0 Q (F0 m 0 ls []) from Z _ _ X
  intro H locs X
  have J250 : ∀ (G_250 : GlbS) (H : Heap) (locs : List Loc) (X : RW D (wC ar ag ca P G_250 ++ xs) s.heap H locs) (ls : Array Slot) (hl : lv_has ls 1 []) (h0 : b_X5_advance_250 G_250 = some G'), W p l e rm_X5_advance s m args below meth c H locs 0 0 Q (F0 m 250 ls []) := by
    intro G_250 H locs X ls hl h0
    unfold b_X5_advance_250 at h0
    have h0 := Option.some.inj h0
    subst h0
    subst hQ
    exact w_vret K hr0 X wC_fstx hsz dX5_advance_250
  have J50 : ∀ (G_50 : GlbS) (H : Heap) (locs : List Loc) (X : RW D (wC ar ag ca P G_50 ++ xs) s.heap H locs) (ls : Array Slot) (hl : lv_has ls 1 [(0, .ref (ag 3))]) (h0 : b_X5_advance_50 n G_50 = some G'), W p l e rm_X5_advance s m args below meth c H locs 0 0 Q (F0 m 50 ls []) := by
    intro G_50 H locs X ls hl h0
    unfold b_X5_advance_50 at h0
    refine lv_aload_n hx hb dX5_advance_50 rfl (lv_at hl 0 rfl) ?_
    refine lv_aload_n hx hb dX5_advance_51 rfl (lv_at hl 0 rfl) ?_
    refine g_toki K X 3 (by decide) q203 dX5_advance_52 ?_
    obtain ⟨Gv2, eGv2, h0⟩ := lt_out h0
    refine p_toki K X 4 (by decide) eGv2 q204 dX5_advance_55 (fun H locs X => ?_)
    refine lv_aload_n hx hb dX5_advance_58 rfl (lv_at hl 0 rfl) ?_
    refine lv_iconst (v := 0) hx hb dX5_advance_59 (by decide) ?_
    obtain ⟨Gv3, eGv3, h0⟩ := lt_out h0
    refine p_toki K X 6 (by decide) eGv3 q206 dX5_advance_60 (fun H locs X => ?_)
    refine lv_aload_n hx hb dX5_advance_63 rfl (lv_at hl 0 rfl) ?_
    refine g_toki K X 3 (by decide) q203 dX5_advance_64 ?_
    refine lv_aload_n hx hb dX5_advance_67 rfl (lv_at hl 0 rfl) ?_
    refine g_toki K X 2 (by decide) q202 dX5_advance_68 ?_
    refine lv_icmp_lt (tgt := 82) hx hb dX5_advance_71 (by decide) (fun c4 => ?_) (fun c4 => ?_)
    · have h0 := if_t c4 h0
      refine lv_aload_n hx hb dX5_advance_82 rfl (lv_at hl 0 rfl) ?_
      refine lv_aload_n hx hb dX5_advance_83 rfl (lv_at hl 0 rfl) ?_
      refine g_toki K X 3 (by decide) q203 dX5_advance_84 ?_
      obtain ⟨x5, ex5, h0⟩ := lt_out h0
      have kx5 := m_X5_byteAt l D ca ar ag P Gv3 xs (Gv3 3 3) x5 ex5.symm H.size
      refine w_callV0 K X wC_fstx kx5 hl.1 1 q482 q484 q5 q21 q485 hv_X5_byteAt ⟨⟨Nat.le_of_ble_eq_true rfl, Nat.le_of_ble_eq_true rfl⟩, rfl, rfl⟩ (pl_glb (k := 3) (by decide)) rfl rfl rfl rfl (Nat.le_of_ble_eq_true rfl) dX5_advance_87 ⟨Nat.le_of_ble_eq_true rfl, Nat.le_of_ble_eq_true rfl⟩ rfl (fun H locs X => ?_)
      obtain ⟨x6, ex6, h0⟩ := lt_out h0
      have kx6 := m_X5_isLetter l D ca (wC ar ag ca P Gv3 ++ xs) x5 x6 ex6.symm H.size
      refine w_callS0 K X wC_fstx kx6 hl.1 1 q486 q487 q21 q488 hs_X5_isLetter ⟨⟨Nat.le_of_ble_eq_true rfl, Nat.le_of_ble_eq_true rfl⟩, rfl, rfl⟩ rfl rfl (Nat.le_of_ble_eq_true rfl) dX5_advance_90 ⟨Nat.le_of_ble_eq_true rfl, Nat.le_of_ble_eq_true rfl⟩ rfl (fun H locs X => ?_)
      refine w_zeq (tgt := 139) K dX5_advance_93 (by decide) (fun c7 => ?_) (fun c7 => ?_)
      · have h0 := if_f c7 h0
        refine lv_aload_n hx hb dX5_advance_139 rfl (lv_at hl 0 rfl) ?_
        refine lv_aload_n hx hb dX5_advance_140 rfl (lv_at hl 0 rfl) ?_
        refine g_toki K X 3 (by decide) q203 dX5_advance_141 ?_
        obtain ⟨x8, ex8, h0⟩ := lt_out h0
        have kx8 := m_X5_byteAt l D ca ar ag P Gv3 xs (Gv3 3 3) x8 ex8.symm H.size
        refine w_callV0 K X wC_fstx kx8 hl.1 1 q482 q484 q5 q21 q485 hv_X5_byteAt ⟨⟨Nat.le_of_ble_eq_true rfl, Nat.le_of_ble_eq_true rfl⟩, rfl, rfl⟩ (pl_glb (k := 3) (by decide)) rfl rfl rfl rfl (Nat.le_of_ble_eq_true rfl) dX5_advance_144 ⟨Nat.le_of_ble_eq_true rfl, Nat.le_of_ble_eq_true rfl⟩ rfl (fun H locs X => ?_)
        obtain ⟨x9, ex9, h0⟩ := lt_out h0
        have kx9 := m_X5_isDigit l D ca (wC ar ag ca P Gv3 ++ xs) x8 x9 ex9.symm H.size
        refine w_callS0 K X wC_fstx kx9 hl.1 1 q489 q490 q21 q491 hs_X5_isDigit ⟨⟨Nat.le_of_ble_eq_true rfl, Nat.le_of_ble_eq_true rfl⟩, rfl, rfl⟩ rfl rfl (Nat.le_of_ble_eq_true rfl) dX5_advance_147 ⟨Nat.le_of_ble_eq_true rfl, Nat.le_of_ble_eq_true rfl⟩ rfl (fun H locs X => ?_)
        refine w_zeq (tgt := 235) K dX5_advance_150 (by decide) (fun c10 => ?_) (fun c10 => ?_)
        · have h0 := if_f c10 h0
          refine lv_aload_n hx hb dX5_advance_235 rfl (lv_at hl 0 rfl) ?_
          refine lv_iconst (v := 3) hx hb dX5_advance_236 (by decide) ?_
          obtain ⟨Gv11, eGv11, h0⟩ := lt_out h0
          refine p_toki K X 5 (by decide) eGv11 q205 dX5_advance_237 (fun H locs X => ?_)
          refine lv_aload_n hx hb dX5_advance_240 rfl (lv_at hl 0 rfl) ?_
          refine lv_dup hx hb dX5_advance_241 rfl ?_
          refine g_toki K X 3 (by decide) q203 dX5_advance_242 ?_
          refine lv_iconst (v := 1) hx hb dX5_advance_245 (by decide) ?_
          refine lv_iadd hx hb dX5_advance_246 ?_
          obtain ⟨Gv12, eGv12, h0⟩ := lt_out h0
          refine p_toki K X 3 (by decide) eGv12 q203 dX5_advance_247 (fun H locs X => ?_)
          exact J250 Gv12 H locs X ls (lv_sub hl [] rfl) h0
        · have h0 := if_t c10 h0
          refine lv_aload_n hx hb dX5_advance_153 rfl (lv_at hl 0 rfl) ?_
          refine lv_iconst (v := 2) hx hb dX5_advance_154 (by decide) ?_
          obtain ⟨Gv13, eGv13, h0⟩ := lt_out h0
          refine p_toki K X 5 (by decide) eGv13 q205 dX5_advance_155 (fun H locs X => ?_)
          obtain ⟨e_1, he1, h0⟩ := ob_out h0
          have K158 : ∀ (k : Nat) (Gz_158 : GlbS) (H : Heap) (locs : List Loc) (X : RW D (wC ar ag ca P Gz_158 ++ xs) s.heap H locs) (ls : Array Slot) (hl : lv_has ls 1 [(0, .ref (ag 3))]) (hw : wloop (fun t => l_X5_advance_158 t) k Gz_158 = some e_1), W p l e rm_X5_advance s m args below meth c H locs 0 0 Q (F0 m 158 ls []) := by
            intro k
            induction k with
            | zero => intro Gz_158 H locs X ls hl hw; exact (wloop_0 hw).elim
            | succ k ih1 =>
              intro Gz_158 H locs X ls hl hw
              obtain ⟨x_1, h1, hx1⟩ := wloop_out hw
              have h1 : l_X5_advance_158 Gz_158 = some x_1 := h1
              unfold l_X5_advance_158 at h1
              have J219 : ∀ (y219_s1 : Int32) (G_219 : GlbS) (H : Heap) (locs : List Loc) (X : RW D (wC ar ag ca P G_219 ++ xs) s.heap H locs) (ls : Array Slot) (hl : lv_has ls 1 [(0, .ref (ag 3))]) (h1 : b_X5_advance_219 y219_s1 G_219 = some x_1), W p l e rm_X5_advance s m args below meth c H locs 0 0 Q (F0 m 219 ls [.int y219_s1, .ref (ag 3)]) := by
                intro y219_s1 G_219 H locs X ls hl h1
                unfold b_X5_advance_219 at h1
                obtain ⟨Gv20, eGv20, h1⟩ := lt_out h1
                refine p_toki K X 6 (by decide) eGv20 q206 dX5_advance_219 (fun H locs X => ?_)
                refine lv_aload_n hx hb dX5_advance_222 rfl (lv_at hl 0 rfl) ?_
                refine lv_dup hx hb dX5_advance_223 rfl ?_
                refine g_toki K X 3 (by decide) q203 dX5_advance_224 ?_
                refine lv_iconst (v := 1) hx hb dX5_advance_227 (by decide) ?_
                refine lv_iadd hx hb dX5_advance_228 ?_
                obtain ⟨Gv21, eGv21, h1⟩ := lt_out h1
                refine p_toki K X 3 (by decide) eGv21 q203 dX5_advance_229 (fun H locs X => ?_)
                refine lv_goto (tgt := 158) hx hb dX5_advance_232 (by decide) ?_
                exact ih1 Gv21 H locs X ls (lv_sub hl [0] rfl) (wl_l h1 hx1)
              refine lv_aload_n hx hb dX5_advance_158 rfl (lv_at hl 0 rfl) ?_
              refine g_toki K X 3 (by decide) q203 dX5_advance_159 ?_
              refine lv_aload_n hx hb dX5_advance_162 rfl (lv_at hl 0 rfl) ?_
              refine g_toki K X 2 (by decide) q202 dX5_advance_163 ?_
              refine lv_icmp_ge (tgt := 250) hx hb dX5_advance_166 (by decide) (fun c14 => ?_) (fun c14 => ?_)
              · have h1 := if_t c14 h1
                have q1 := wl_r h1 hx1
                exact J250 Gz_158 H locs X ls (lv_sub hl [] rfl) (by rw [q1] at h0; exact h0)
              · have h1 := if_f c14 h1
                refine lv_aload_n hx hb dX5_advance_169 rfl (lv_at hl 0 rfl) ?_
                refine lv_aload_n hx hb dX5_advance_170 rfl (lv_at hl 0 rfl) ?_
                refine g_toki K X 3 (by decide) q203 dX5_advance_171 ?_
                obtain ⟨x15, ex15, h1⟩ := lt_out h1
                have kx15 := m_X5_byteAt l D ca ar ag P Gz_158 xs (Gz_158 3 3) x15 ex15.symm H.size
                refine w_callV0 K X wC_fstx kx15 hl.1 1 q482 q484 q5 q21 q485 hv_X5_byteAt ⟨⟨Nat.le_of_ble_eq_true rfl, Nat.le_of_ble_eq_true rfl⟩, rfl, rfl⟩ (pl_glb (k := 3) (by decide)) rfl rfl rfl rfl (Nat.le_of_ble_eq_true rfl) dX5_advance_174 ⟨Nat.le_of_ble_eq_true rfl, Nat.le_of_ble_eq_true rfl⟩ rfl (fun H locs X => ?_)
                obtain ⟨x16, ex16, h1⟩ := lt_out h1
                have kx16 := m_X5_isDigit l D ca (wC ar ag ca P Gz_158 ++ xs) x15 x16 ex16.symm H.size
                refine w_callS0 K X wC_fstx kx16 hl.1 1 q489 q490 q21 q491 hs_X5_isDigit ⟨⟨Nat.le_of_ble_eq_true rfl, Nat.le_of_ble_eq_true rfl⟩, rfl, rfl⟩ rfl rfl (Nat.le_of_ble_eq_true rfl) dX5_advance_177 ⟨Nat.le_of_ble_eq_true rfl, Nat.le_of_ble_eq_true rfl⟩ rfl (fun H locs X => ?_)
                refine w_zeq (tgt := 250) K dX5_advance_180 (by decide) (fun c17 => ?_) (fun c17 => ?_)
                · have h1 := if_f c17 h1
                  have q1 := wl_r h1 hx1
                  exact J250 Gz_158 H locs X ls (lv_sub hl [] rfl) (by rw [q1] at h0; exact h0)
                · have h1 := if_t c17 h1
                  refine lv_aload_n hx hb dX5_advance_183 rfl (lv_at hl 0 rfl) ?_
                  refine lv_aload_n hx hb dX5_advance_184 rfl (lv_at hl 0 rfl) ?_
                  refine g_toki K X 6 (by decide) q206 dX5_advance_185 ?_
                  refine lv_ldc hx hb K.2.2.2.1 (K.2.2.2.2.1 _ q492) dX5_advance_188 ?_
                  refine lv_icmp_le (tgt := 200) hx hb dX5_advance_190 (by decide) (fun c18 => ?_) (fun c18 => ?_)
                  · have h1 := if_t c18 h1
                    refine lv_aload_n hx hb dX5_advance_200 rfl (lv_at hl 0 rfl) ?_
                    refine g_toki K X 6 (by decide) q206 dX5_advance_201 ?_
                    refine lv_bipush (v := 10) hx hb dX5_advance_204 (by decide) ?_
                    refine lv_imul hx hb dX5_advance_206 ?_
                    refine lv_aload_n hx hb dX5_advance_207 rfl (lv_at hl 0 rfl) ?_
                    refine lv_aload_n hx hb dX5_advance_208 rfl (lv_at hl 0 rfl) ?_
                    refine g_toki K X 3 (by decide) q203 dX5_advance_209 ?_
                    obtain ⟨x19, ex19, h1⟩ := lt_out h1
                    have kx19 := m_X5_byteAt l D ca ar ag P Gz_158 xs (Gz_158 3 3) x19 ex19.symm H.size
                    refine w_callV0 K X wC_fstx kx19 hl.1 1 q482 q484 q5 q21 q485 hv_X5_byteAt ⟨⟨Nat.le_of_ble_eq_true rfl, Nat.le_of_ble_eq_true rfl⟩, rfl, rfl⟩ (pl_glb (k := 3) (by decide)) rfl rfl rfl rfl (Nat.le_of_ble_eq_true rfl) dX5_advance_212 ⟨Nat.le_of_ble_eq_true rfl, Nat.le_of_ble_eq_true rfl⟩ rfl (fun H locs X => ?_)
                    refine lv_iadd hx hb dX5_advance_215 ?_
                    refine lv_bipush (v := 48) hx hb dX5_advance_216 (by decide) ?_
                    refine lv_isub hx hb dX5_advance_218 ?_
                    exact J219 ((((Gz_158 3 6) * 10) + x19) - 48) Gz_158 H locs X ls (lv_sub hl [0] rfl) h1
                  · have h1 := if_f c18 h1
                    refine lv_aload_n hx hb dX5_advance_193 rfl (lv_at hl 0 rfl) ?_
                    refine g_toki K X 6 (by decide) q206 dX5_advance_194 ?_
                    refine lv_goto (tgt := 219) hx hb dX5_advance_197 (by decide) ?_
                    exact J219 (Gz_158 3 6) Gz_158 H locs X ls (lv_sub hl [0] rfl) h1
          exact K158 n Gv13 H locs X ls (lv_sub hl [0] rfl) he1
      · have h0 := if_t c7 h0
        refine lv_aload_n hx hb dX5_advance_96 rfl (lv_at hl 0 rfl) ?_
        refine lv_iconst (v := 1) hx hb dX5_advance_97 (by decide) ?_
        obtain ⟨Gv22, eGv22, h0⟩ := lt_out h0
        refine p_toki K X 5 (by decide) eGv22 q205 dX5_advance_98 (fun H locs X => ?_)
        obtain ⟨e_1, he1, h0⟩ := ob_out h0
        have K101 : ∀ (k : Nat) (Gz_101 : GlbS) (H : Heap) (locs : List Loc) (X : RW D (wC ar ag ca P Gz_101 ++ xs) s.heap H locs) (ls : Array Slot) (hl : lv_has ls 1 [(0, .ref (ag 3))]) (hw : wloop (fun t => l_X5_advance_101 t) k Gz_101 = some e_1), W p l e rm_X5_advance s m args below meth c H locs 0 0 Q (F0 m 101 ls []) := by
          intro k
          induction k with
          | zero => intro Gz_101 H locs X ls hl hw; exact (wloop_0 hw).elim
          | succ k ih1 =>
            intro Gz_101 H locs X ls hl hw
            obtain ⟨x_1, h1, hx1⟩ := wloop_out hw
            have h1 : l_X5_advance_101 Gz_101 = some x_1 := h1
            unfold l_X5_advance_101 at h1
            refine lv_aload_n hx hb dX5_advance_101 rfl (lv_at hl 0 rfl) ?_
            refine g_toki K X 3 (by decide) q203 dX5_advance_102 ?_
            refine lv_aload_n hx hb dX5_advance_105 rfl (lv_at hl 0 rfl) ?_
            refine g_toki K X 2 (by decide) q202 dX5_advance_106 ?_
            refine lv_icmp_ge (tgt := 250) hx hb dX5_advance_109 (by decide) (fun c23 => ?_) (fun c23 => ?_)
            · have h1 := if_t c23 h1
              have q1 := wl_r h1 hx1
              exact J250 Gz_101 H locs X ls (lv_sub hl [] rfl) (by rw [q1] at h0; exact h0)
            · have h1 := if_f c23 h1
              refine lv_aload_n hx hb dX5_advance_112 rfl (lv_at hl 0 rfl) ?_
              refine lv_aload_n hx hb dX5_advance_113 rfl (lv_at hl 0 rfl) ?_
              refine g_toki K X 3 (by decide) q203 dX5_advance_114 ?_
              obtain ⟨x24, ex24, h1⟩ := lt_out h1
              have kx24 := m_X5_byteAt l D ca ar ag P Gz_101 xs (Gz_101 3 3) x24 ex24.symm H.size
              refine w_callV0 K X wC_fstx kx24 hl.1 1 q482 q484 q5 q21 q485 hv_X5_byteAt ⟨⟨Nat.le_of_ble_eq_true rfl, Nat.le_of_ble_eq_true rfl⟩, rfl, rfl⟩ (pl_glb (k := 3) (by decide)) rfl rfl rfl rfl (Nat.le_of_ble_eq_true rfl) dX5_advance_117 ⟨Nat.le_of_ble_eq_true rfl, Nat.le_of_ble_eq_true rfl⟩ rfl (fun H locs X => ?_)
              obtain ⟨x25, ex25, h1⟩ := lt_out h1
              have kx25 := m_X5_isLetter l D ca (wC ar ag ca P Gz_101 ++ xs) x24 x25 ex25.symm H.size
              refine w_callS0 K X wC_fstx kx25 hl.1 1 q486 q487 q21 q488 hs_X5_isLetter ⟨⟨Nat.le_of_ble_eq_true rfl, Nat.le_of_ble_eq_true rfl⟩, rfl, rfl⟩ rfl rfl (Nat.le_of_ble_eq_true rfl) dX5_advance_120 ⟨Nat.le_of_ble_eq_true rfl, Nat.le_of_ble_eq_true rfl⟩ rfl (fun H locs X => ?_)
              refine w_zeq (tgt := 250) K dX5_advance_123 (by decide) (fun c26 => ?_) (fun c26 => ?_)
              · have h1 := if_f c26 h1
                have q1 := wl_r h1 hx1
                exact J250 Gz_101 H locs X ls (lv_sub hl [] rfl) (by rw [q1] at h0; exact h0)
              · have h1 := if_t c26 h1
                refine lv_aload_n hx hb dX5_advance_126 rfl (lv_at hl 0 rfl) ?_
                refine lv_dup hx hb dX5_advance_127 rfl ?_
                refine g_toki K X 3 (by decide) q203 dX5_advance_128 ?_
                refine lv_iconst (v := 1) hx hb dX5_advance_131 (by decide) ?_
                refine lv_iadd hx hb dX5_advance_132 ?_
                obtain ⟨Gv27, eGv27, h1⟩ := lt_out h1
                refine p_toki K X 3 (by decide) eGv27 q203 dX5_advance_133 (fun H locs X => ?_)
                refine lv_goto (tgt := 101) hx hb dX5_advance_136 (by decide) ?_
                exact ih1 Gv27 H locs X ls (lv_sub hl [0] rfl) (wl_l h1 hx1)
        exact K101 n Gv22 H locs X ls (lv_sub hl [0] rfl) he1
    · have h0 := if_f c4 h0
      refine lv_aload_n hx hb dX5_advance_74 rfl (lv_at hl 0 rfl) ?_
      refine lv_iconst (v := 0) hx hb dX5_advance_75 (by decide) ?_
      obtain ⟨Gv28, eGv28, h0⟩ := lt_out h0
      refine p_toki K X 5 (by decide) eGv28 q205 dX5_advance_76 (fun H locs X => ?_)
      refine lv_goto (tgt := 250) hx hb dX5_advance_79 (by decide) ?_
      exact J250 Gv28 H locs X ls (lv_sub hl [] rfl) h0
  obtain ⟨e_1, he1, h0⟩ := ob_out h0
  have K0 : ∀ (k : Nat) (Gz_0 : GlbS) (H : Heap) (locs : List Loc) (X : RW D (wC ar ag ca P Gz_0 ++ xs) s.heap H locs) (ls : Array Slot) (hl : lv_has ls 1 [(0, .ref (ag 3))]) (hw : wloop (fun t => l_X5_advance_0 t) k Gz_0 = some e_1), W p l e rm_X5_advance s m args below meth c H locs 0 0 Q (F0 m 0 ls []) := by
    intro k
    induction k with
    | zero => intro Gz_0 H locs X ls hl hw; exact (wloop_0 hw).elim
    | succ k ih1 =>
      intro Gz_0 H locs X ls hl hw
      obtain ⟨x_1, h1, hx1⟩ := wloop_out hw
      have h1 : l_X5_advance_0 Gz_0 = some x_1 := h1
      unfold l_X5_advance_0 at h1
      have J37 : ∀ (G_37 : GlbS) (H : Heap) (locs : List Loc) (X : RW D (wC ar ag ca P G_37 ++ xs) s.heap H locs) (ls : Array Slot) (hl : lv_has ls 1 [(0, .ref (ag 3))]) (h1 : b_X5_advance_37 G_37 = some x_1), W p l e rm_X5_advance s m args below meth c H locs 0 0 Q (F0 m 37 ls []) := by
        intro G_37 H locs X ls hl h1
        unfold b_X5_advance_37 at h1
        refine lv_aload_n hx hb dX5_advance_37 rfl (lv_at hl 0 rfl) ?_
        refine lv_dup hx hb dX5_advance_38 rfl ?_
        refine g_toki K X 3 (by decide) q203 dX5_advance_39 ?_
        refine lv_iconst (v := 1) hx hb dX5_advance_42 (by decide) ?_
        refine lv_iadd hx hb dX5_advance_43 ?_
        obtain ⟨Gv31, eGv31, h1⟩ := lt_out h1
        refine p_toki K X 3 (by decide) eGv31 q203 dX5_advance_44 (fun H locs X => ?_)
        refine lv_goto (tgt := 0) hx hb dX5_advance_47 (by decide) ?_
        exact ih1 Gv31 H locs X ls (lv_sub hl [0] rfl) (wl_l h1 hx1)
      refine lv_aload_n hx hb dX5_advance_0 rfl (lv_at hl 0 rfl) ?_
      refine g_toki K X 3 (by decide) q203 dX5_advance_1 ?_
      refine lv_aload_n hx hb dX5_advance_4 rfl (lv_at hl 0 rfl) ?_
      refine g_toki K X 2 (by decide) q202 dX5_advance_5 ?_
      refine lv_icmp_ge (tgt := 50) hx hb dX5_advance_8 (by decide) (fun c1 => ?_) (fun c1 => ?_)
      · have h1 := if_t c1 h1
        have q1 := wl_r h1 hx1
        exact J50 Gz_0 H locs X ls (lv_sub hl [0] rfl) (by rw [q1] at h0; exact h0)
      · have h1 := if_f c1 h1
        refine lv_aload_n hx hb dX5_advance_11 rfl (lv_at hl 0 rfl) ?_
        refine lv_aload_n hx hb dX5_advance_12 rfl (lv_at hl 0 rfl) ?_
        refine g_toki K X 3 (by decide) q203 dX5_advance_13 ?_
        obtain ⟨x29, ex29, h1⟩ := lt_out h1
        have kx29 := m_X5_byteAt l D ca ar ag P Gz_0 xs (Gz_0 3 3) x29 ex29.symm H.size
        refine w_callV0 K X wC_fstx kx29 hl.1 1 q482 q484 q5 q21 q485 hv_X5_byteAt ⟨⟨Nat.le_of_ble_eq_true rfl, Nat.le_of_ble_eq_true rfl⟩, rfl, rfl⟩ (pl_glb (k := 3) (by decide)) rfl rfl rfl rfl (Nat.le_of_ble_eq_true rfl) dX5_advance_16 ⟨Nat.le_of_ble_eq_true rfl, Nat.le_of_ble_eq_true rfl⟩ rfl (fun H locs X => ?_)
        refine lv_bipush (v := 32) hx hb dX5_advance_19 (by decide) ?_
        refine lv_icmp_eq (tgt := 37) hx hb dX5_advance_21 (by decide) (fun c30 => ?_) (fun c30 => ?_)
        · have h1 := if_t c30 h1
          exact J37 Gz_0 H locs X ls (lv_sub hl [0] rfl) h1
        · have h1 := if_f c30 h1
          refine lv_aload_n hx hb dX5_advance_24 rfl (lv_at hl 0 rfl) ?_
          refine lv_aload_n hx hb dX5_advance_25 rfl (lv_at hl 0 rfl) ?_
          refine g_toki K X 3 (by decide) q203 dX5_advance_26 ?_
          obtain ⟨x32, ex32, h1⟩ := lt_out h1
          have kx32 := m_X5_byteAt l D ca ar ag P Gz_0 xs (Gz_0 3 3) x32 ex32.symm H.size
          refine w_callV0 K X wC_fstx kx32 hl.1 1 q482 q484 q5 q21 q485 hv_X5_byteAt ⟨⟨Nat.le_of_ble_eq_true rfl, Nat.le_of_ble_eq_true rfl⟩, rfl, rfl⟩ (pl_glb (k := 3) (by decide)) rfl rfl rfl rfl (Nat.le_of_ble_eq_true rfl) dX5_advance_29 ⟨Nat.le_of_ble_eq_true rfl, Nat.le_of_ble_eq_true rfl⟩ rfl (fun H locs X => ?_)
          refine lv_bipush (v := 10) hx hb dX5_advance_32 (by decide) ?_
          refine lv_icmp_ne (tgt := 50) hx hb dX5_advance_34 (by decide) (fun c33 => ?_) (fun c33 => ?_)
          · have h1 := if_f c33 h1
            have q1 := wl_r h1 hx1
            exact J50 Gz_0 H locs X ls (lv_sub hl [0] rfl) (by rw [q1] at h0; exact h0)
          · have h1 := if_t c33 h1
            exact J37 Gz_0 H locs X ls (lv_sub hl [0] rfl) h1
  exact K0 n G H locs X ls (lv_sub hl [0] rfl) he1
-- X5_begin
def f_X5_begin (n : Nat) (G : GlbS) (a1 : Int32) : Option GlbS :=
  lt (sg G 3 2 (jmin a1 600)) fun Gv1 =>
  lt (sg Gv1 3 3 0) fun Gv2 =>
  lt (sg Gv2 3 7 0) fun Gv3 =>
  lt (sg Gv3 3 8 (-1)) fun Gv4 =>
  ob (f_X5_advance n Gv4) fun x5 =>
  lt (x5) fun Gv6 =>
  some Gv6
abbrev rm_X5_begin : Room := { frames := 2, cells := 0, slots := 0, locals := 41 }
set_option maxRecDepth 100000 in
set_option maxHeartbeats 4000000 in
theorem m_X5_begin (l : Launch) (D : va_G) (ca : Nat → ClassId) (ar : Nat → Nat → Nat) (ag : Nat → Nat) (n : Nat) (P : RowsS) (G : GlbS) (xs : va_W) (a1 : Int32) (G' : GlbS) (h0 : f_X5_begin n G a1 = some G') (sz : Nat) : Met l yX5_begin (ws_ yX5_begin cX5_begin 2 none) rm_X5_begin (PCw D ca (wC ar ag ca P G ++ xs) sz [.ref (ag 3), .int a1]) (QMw D (wC ar ag ca P G ++ xs) (wC ar ag ca P (G') ++ xs) sz none) 0 0 (AL (wC ar ag ca P G ++ xs) sz) := by
  refine met_of (by decide) (Nat.le_of_ble_eq_true rfl) (fun p e s m args below meth c K hr0 X hsz ls hl => ?_)
  have K : MC D ca p s m args meth c cX5_begin 2 RX5 := K
  have hx := K.1
  have hb := K.2.1
  have hl : lv_has ls 2 [(0, .ref (ag 3)), (1, .int a1)] := hl
  generalize hQ : MQ below _ args s 0 0 _ = Q
  unfold f_X5_begin at h0
  suffices Z : ∀ (H : Heap) (locs : List Loc) (X : RW D (wC ar ag ca P G ++ xs) s.heap H locs), W p l e rm_X5_begin s m args below meth c H locs 0 0 Q (F0 m 0 ls []) from Z _ _ X
  intro H locs X
  refine lv_aload_n hx hb dX5_begin_0 rfl (lv_at hl 0 rfl) ?_
  refine lv_iload_n hx hb dX5_begin_1 rfl (lv_at hl 1 rfl) ?_
  refine lv_aload_n hx hb dX5_begin_2 rfl (lv_at hl 0 rfl) ?_
  refine g_tokr K X q199 dX5_begin_3 ?_
  refine l_bytes K X dX5_begin_6 ?_
  refine w_mmin K hl.1 q475 q476 q32 q477 (Nat.le_of_ble_eq_true rfl) (Nat.le_of_ble_eq_true rfl) (Nat.le_of_ble_eq_true rfl) (Nat.le_of_ble_eq_true rfl) dX5_begin_7 ?_
  obtain ⟨Gv1, eGv1, h0⟩ := lt_out h0
  refine p_toki K X 2 (by decide) eGv1 q202 dX5_begin_10 (fun H locs X => ?_)
  refine lv_aload_n hx hb dX5_begin_13 rfl (lv_at hl 0 rfl) ?_
  refine lv_iconst (v := 0) hx hb dX5_begin_14 (by decide) ?_
  obtain ⟨Gv2, eGv2, h0⟩ := lt_out h0
  refine p_toki K X 3 (by decide) eGv2 q203 dX5_begin_15 (fun H locs X => ?_)
  refine lv_aload_n hx hb dX5_begin_18 rfl (lv_at hl 0 rfl) ?_
  refine lv_iconst (v := 0) hx hb dX5_begin_19 (by decide) ?_
  obtain ⟨Gv3, eGv3, h0⟩ := lt_out h0
  refine p_toki K X 7 (by decide) eGv3 q208 dX5_begin_20 (fun H locs X => ?_)
  refine lv_aload_n hx hb dX5_begin_23 rfl (lv_at hl 0 rfl) ?_
  refine lv_iconst (v := (-1)) hx hb dX5_begin_24 (by decide) ?_
  obtain ⟨Gv4, eGv4, h0⟩ := lt_out h0
  refine p_toki K X 8 (by decide) eGv4 q209 dX5_begin_25 (fun H locs X => ?_)
  refine lv_aload_n hx hb dX5_begin_28 rfl (lv_at hl 0 rfl) ?_
  obtain ⟨x5, ex5, h0⟩ := ob_out h0
  obtain ⟨Gv6, eGv6, h0⟩ := lt_out h0
  have kx5 := m_X5_advance l D ca ar ag n P Gv4 xs x5 ex5 H.size
  rw [← eGv6] at kx5
  refine w_callV0 K X wC_fstx kx5 hl.1 0 q478 q479 q480 q21 q481 hv_X5_advance ⟨⟨Nat.le_of_ble_eq_true rfl, Nat.le_of_ble_eq_true rfl⟩, rfl, rfl⟩ (pl_glb (k := 3) (by decide)) rfl rfl rfl rfl (Nat.le_of_ble_eq_true rfl) dX5_begin_29 ⟨Nat.le_of_ble_eq_true rfl, Nat.le_of_ble_eq_true rfl⟩ rfl (fun H locs X => ?_)
  have h0 := Option.some.inj h0
  subst h0
  subst hQ
  exact w_vret K hr0 X wC_fstx hsz dX5_begin_32
-- X5_fail
def f_X5_fail (G : GlbS) (a1 : Int32) : GlbS :=
  if (G 3 7) = 0 then
    lt (sg G 3 7 a1) fun Gv2 =>
    lt (sg Gv2 3 8 (Gv2 3 4)) fun Gv3 =>
    Gv3
  else
    G
abbrev rm_X5_fail : Room := { frames := 0, cells := 0, slots := 0, locals := 0 }
set_option maxRecDepth 100000 in
set_option maxHeartbeats 4000000 in
theorem m_X5_fail (l : Launch) (D : va_G) (ca : Nat → ClassId) (ar : Nat → Nat → Nat) (ag : Nat → Nat) (P : RowsS) (G : GlbS) (xs : va_W) (a1 : Int32) (G' : GlbS) (h0 : f_X5_fail G a1 = G') (sz : Nat) : Met l yX5_fail (ws_ yX5_fail cX5_fail 2 none) rm_X5_fail (PCw D ca (wC ar ag ca P G ++ xs) sz [.ref (ag 3), .int a1]) (QMw D (wC ar ag ca P G ++ xs) (wC ar ag ca P (G') ++ xs) sz none) 0 0 (AL (wC ar ag ca P G ++ xs) sz) := by
  refine met_of (by decide) (Nat.le_of_ble_eq_true rfl) (fun p e s m args below meth c K hr0 X hsz ls hl => ?_)
  have K : MC D ca p s m args meth c cX5_fail 2 RX5 := K
  have hx := K.1
  have hb := K.2.1
  have hl : lv_has ls 2 [(0, .ref (ag 3)), (1, .int a1)] := hl
  generalize hQ : MQ below _ args s 0 0 _ = Q
  unfold f_X5_fail at h0
  suffices Z : ∀ (H : Heap) (locs : List Loc) (X : RW D (wC ar ag ca P G ++ xs) s.heap H locs), W p l e rm_X5_fail s m args below meth c H locs 0 0 Q (F0 m 0 ls []) from Z _ _ X
  intro H locs X
  refine lv_aload_n hx hb dX5_fail_0 rfl (lv_at hl 0 rfl) ?_
  refine g_toki K X 7 (by decide) q208 dX5_fail_1 ?_
  refine lv_if_ne (tgt := 20) hx hb dX5_fail_4 (by decide) (fun c1 => ?_) (fun c1 => ?_)
  · have h0 := if_f c1 h0
    subst h0
    subst hQ
    exact w_vret K hr0 X wC_fstx hsz dX5_fail_20
  · have h0 := if_t c1 h0
    refine lv_aload_n hx hb dX5_fail_7 rfl (lv_at hl 0 rfl) ?_
    refine lv_iload_n hx hb dX5_fail_8 rfl (lv_at hl 1 rfl) ?_
    obtain ⟨Gv2, eGv2, h0⟩ := lt_out h0
    refine p_toki K X 7 (by decide) eGv2 q208 dX5_fail_9 (fun H locs X => ?_)
    refine lv_aload_n hx hb dX5_fail_12 rfl (lv_at hl 0 rfl) ?_
    refine lv_aload_n hx hb dX5_fail_13 rfl (lv_at hl 0 rfl) ?_
    refine g_toki K X 4 (by decide) q204 dX5_fail_14 ?_
    obtain ⟨Gv3, eGv3, h0⟩ := lt_out h0
    refine p_toki K X 8 (by decide) eGv3 q209 dX5_fail_17 (fun H locs X => ?_)
    subst h0
    subst hQ
    exact w_vret K hr0 X wC_fstx hsz dX5_fail_20
-- X5_goesOn
def f_X5_goesOn (G : GlbS) : Bool :=
  if (G 3 7) = 0 then
    if (G 3 5) = 0 then
      false
    else
      true
  else
    false
abbrev rm_X5_goesOn : Room := { frames := 0, cells := 0, slots := 0, locals := 0 }
set_option maxRecDepth 100000 in
set_option maxHeartbeats 4000000 in
theorem m_X5_goesOn (l : Launch) (D : va_G) (ca : Nat → ClassId) (ar : Nat → Nat → Nat) (ag : Nat → Nat) (P : RowsS) (G : GlbS) (xs : va_W) (res : Bool) (h0 : f_X5_goesOn G = res) (sz : Nat) : Met l yX5_goesOn (ws_ yX5_goesOn cX5_goesOn 1 (some .boolean)) rm_X5_goesOn (PCw D ca (wC ar ag ca P G ++ xs) sz [.ref (ag 3)]) (QMw D (wC ar ag ca P G ++ xs) (wC ar ag ca P G ++ xs) sz (some (.int (b2i res)))) 0 0 (AL (wC ar ag ca P G ++ xs) sz) := by
  refine met_of (by decide) (Nat.le_of_ble_eq_true rfl) (fun p e s m args below meth c K hr0 X hsz ls hl => ?_)
  have K : MC D ca p s m args meth c cX5_goesOn 1 RX5 := K
  have hx := K.1
  have hb := K.2.1
  have hl : lv_has ls 1 [(0, .ref (ag 3))] := hl
  generalize hQ : MQ below _ args s 0 0 _ = Q
  unfold f_X5_goesOn at h0
  suffices Z : ∀ (H : Heap) (locs : List Loc) (X : RW D (wC ar ag ca P G ++ xs) s.heap H locs), W p l e rm_X5_goesOn s m args below meth c H locs 0 0 Q (F0 m 0 ls []) from Z _ _ X
  intro H locs X
  refine lv_aload_n hx hb dX5_goesOn_0 rfl (lv_at hl 0 rfl) ?_
  refine g_toki K X 7 (by decide) q208 dX5_goesOn_1 ?_
  refine lv_if_ne (tgt := 18) hx hb dX5_goesOn_4 (by decide) (fun c1 => ?_) (fun c1 => ?_)
  · have h0 := if_f c1 h0
    refine lv_iconst (v := 0) hx hb dX5_goesOn_18 (by decide) ?_
    subst h0
    subst hQ
    refine w_int (y := b2i false) (by decide) ?_
    exact w_zret K hr0 X wC_fstx hsz (b2i_nar _) dX5_goesOn_19
  · have h0 := if_t c1 h0
    refine lv_aload_n hx hb dX5_goesOn_7 rfl (lv_at hl 0 rfl) ?_
    refine g_toki K X 5 (by decide) q205 dX5_goesOn_8 ?_
    refine lv_if_eq (tgt := 18) hx hb dX5_goesOn_11 (by decide) (fun c2 => ?_) (fun c2 => ?_)
    · have h0 := if_t c2 h0
      refine lv_iconst (v := 0) hx hb dX5_goesOn_18 (by decide) ?_
      subst h0
      subst hQ
      refine w_int (y := b2i false) (by decide) ?_
      exact w_zret K hr0 X wC_fstx hsz (b2i_nar _) dX5_goesOn_19
    · have h0 := if_f c2 h0
      refine lv_iconst (v := 1) hx hb dX5_goesOn_14 (by decide) ?_
      refine lv_goto (tgt := 19) hx hb dX5_goesOn_15 (by decide) ?_
      subst h0
      subst hQ
      refine w_int (y := b2i true) (by decide) ?_
      exact w_zret K hr0 X wC_fstx hsz (b2i_nar _) dX5_goesOn_19
-- X5_isWord
def b_X5_isWord_94  (y94_l2 : Int32) : Option Bool :=
  if y94_l2 = 0 ∨ y94_l2 = 1 then
    some (decide (y94_l2 = 1))
  else none
def b_X5_isWord_87  (y87_l3 : Int32) (y87_s0 : Int32) : Option ((Int32 × Int32) ⊕ Int32) :=
  lt (y87_l3 + 1) fun x8 =>
  some (.inl (y87_s0, x8))
def b_X5_isWord_86  (y86_l3 : Int32) : Option ((Int32 × Int32) ⊕ Int32) :=
  b_X5_isWord_87 y86_l3 0
def l_X5_isWord_32 (G : GlbS) (a1 : Nat) (z32_2 : Int32) (z32_3 : Int32) : Option ((Int32 × Int32) ⊕ Int32) :=
  lt (f_J0_length_8abf5 a1) fun x2 =>
  if x2 ≤ z32_3 then
    some (.inr z32_2)
  else
    if z32_2 = 0 then
      some (.inr z32_2)
    else
      lt ((G 3 4) + z32_3) fun x6 =>
      if x6 < 0 then
        b_X5_isWord_86 z32_3
      else
        if 600 ≤ x6 then
          b_X5_isWord_86 z32_3
        else
          ob (f_J0_charAt_5068e a1 z32_3) fun x10 =>
          if (G 4 x6.toNatClampNeg) = x10 then
            b_X5_isWord_87 z32_3 1
          else
            b_X5_isWord_86 z32_3
def b_X5_isWord_29 (n : Nat) (G : GlbS) (a1 : Nat) (y29_s0 : Int32) : Option Bool :=
  ob (wloop (fun t => l_X5_isWord_32 G a1 t.1 t.2) n (y29_s0, 0)) (fun t => b_X5_isWord_94 t)
def b_X5_isWord_28 (n : Nat) (G : GlbS) (a1 : Nat)  : Option Bool :=
  b_X5_isWord_29 n G a1 0
def f_X5_isWord (n : Nat) (G : GlbS) (a1 : Nat) : Option Bool :=
  if (G 3 5) = 1 then
    lt (f_J0_length_8abf5 a1) fun x12 =>
    if ((G 3 3) - (G 3 4)) = x12 then
      b_X5_isWord_29 n G a1 1
    else
      b_X5_isWord_28 n G a1
  else
    b_X5_isWord_28 n G a1
abbrev rm_X5_isWord : Room := { frames := 4, cells := 0, slots := 0, locals := 85 }
set_option maxRecDepth 100000 in
set_option maxHeartbeats 4000000 in
theorem m_X5_isWord (l : Launch) (D : va_G) (ca : Nat → ClassId) (ar : Nat → Nat → Nat) (ag : Nat → Nat) (z : ZG) (n : Nat) (P : RowsS) (G : GlbS) (xs : va_W) (a1 : Nat) (ha1 : a1 < 21) (res : Bool) (h0 : f_X5_isWord n G a1 = some res) (sz : Nat) : Met l yX5_isWord (ws_ yX5_isWord cX5_isWord 5 (some .boolean)) rm_X5_isWord (PCz z D ca (wC ar ag ca P G ++ xs) sz [.ref (ag 3), .ref (z.1 a1)]) (QMw D (wC ar ag ca P G ++ xs) (wC ar ag ca P G ++ xs) sz (some (.int (b2i res)))) 0 0 (AL (wC ar ag ca P G ++ xs) sz) := by
  refine met_z (by decide +kernel) (Nat.le_of_ble_eq_true rfl) (fun p e s m args below meth c K hr0 hZ X hsz ls hl => ?_)
  have K : MC D ca p s m args meth c cX5_isWord 5 RX5 := K
  have hx := K.1
  have hb := K.2.1
  have hl : lv_has ls 5 [(0, .ref (ag 3)), (1, .ref (z.1 a1))] := hl
  generalize hQ : MQ below _ args s 0 0 _ = Q
  unfold f_X5_isWord at h0
  suffices Z : ∀ (H : Heap) (locs : List Loc) (X : RW D (wC ar ag ca P G ++ xs) s.heap H locs), W p l e rm_X5_isWord s m args below meth c H locs 0 0 Q (F0 m 0 ls []) from Z _ _ X
  intro H locs X
  have J94 : ∀ (y94_l2 : Int32) (H : Heap) (locs : List Loc) (X : RW D (wC ar ag ca P G ++ xs) s.heap H locs) (ls : Array Slot) (hl : lv_has ls 5 [(2, .int y94_l2)]) (h0 : b_X5_isWord_94 y94_l2 = some res), W p l e rm_X5_isWord s m args below meth c H locs 0 0 Q (F0 m 94 ls []) := by
    intro y94_l2 H locs X ls hl h0
    unfold b_X5_isWord_94 at h0
    refine lv_iload_n hx hb dX5_isWord_94 rfl (lv_at hl 0 rfl) ?_
    obtain ⟨c4, h0⟩ := if_o h0
    have h0 := Option.some.inj h0
    subst h0
    subst hQ
    refine w_int (b2i_dec c4) ?_
    exact w_zret K hr0 X wC_fstx hsz (b2i_nar _) dX5_isWord_95
  have J29 : ∀ (y29_s0 : Int32) (H : Heap) (locs : List Loc) (X : RW D (wC ar ag ca P G ++ xs) s.heap H locs) (ls : Array Slot) (hl : lv_has ls 5 [(0, .ref (ag 3)), (1, .ref (z.1 a1))]) (h0 : b_X5_isWord_29 n G a1 y29_s0 = some res), W p l e rm_X5_isWord s m args below meth c H locs 0 0 Q (F0 m 29 ls [.int y29_s0]) := by
    intro y29_s0 H locs X ls hl h0
    unfold b_X5_isWord_29 at h0
    refine lv_istore_n (lv' := [(2, .int y29_s0), (0, .ref (ag 3)), (1, .ref (z.1 a1))]) hx hb dX5_isWord_29 rfl hl (by decide) rfl (fun ls hl => ?_)
    refine lv_iconst (v := 0) hx hb dX5_isWord_30 (by decide) ?_
    refine lv_istore_n (lv' := [(3, .int 0), (2, .int y29_s0), (0, .ref (ag 3)), (1, .ref (z.1 a1))]) hx hb dX5_isWord_31 rfl hl (by decide) rfl (fun ls hl => ?_)
    obtain ⟨e_1, he1, h0⟩ := ob_out h0
    have K32 : ∀ (k : Nat) (z32_2 : Int32) (z32_3 : Int32) (H : Heap) (locs : List Loc) (X : RW D (wC ar ag ca P G ++ xs) s.heap H locs) (ls : Array Slot) (hl : lv_has ls 5 [(0, .ref (ag 3)), (1, .ref (z.1 a1)), (2, .int z32_2), (3, .int z32_3)]) (hw : wloop (fun t => l_X5_isWord_32 G a1 t.1 t.2) k (z32_2, z32_3) = some e_1), W p l e rm_X5_isWord s m args below meth c H locs 0 0 Q (F0 m 32 ls []) := by
      intro k
      induction k with
      | zero => intro z32_2 z32_3 H locs X ls hl hw; exact (wloop_0 hw).elim
      | succ k ih1 =>
        intro z32_2 z32_3 H locs X ls hl hw
        obtain ⟨x_1, h1, hx1⟩ := wloop_out hw
        have h1 : l_X5_isWord_32 G a1 z32_2 z32_3 = some x_1 := h1
        unfold l_X5_isWord_32 at h1
        have J87 : ∀ (y87_l3 : Int32) (y87_s0 : Int32) (H : Heap) (locs : List Loc) (X : RW D (wC ar ag ca P G ++ xs) s.heap H locs) (ls : Array Slot) (hl : lv_has ls 5 [(0, .ref (ag 3)), (1, .ref (z.1 a1)), (3, .int y87_l3)]) (h1 : b_X5_isWord_87 y87_l3 y87_s0 = some x_1), W p l e rm_X5_isWord s m args below meth c H locs 0 0 Q (F0 m 87 ls [.int y87_s0]) := by
          intro y87_l3 y87_s0 H locs X ls hl h1
          unfold b_X5_isWord_87 at h1
          refine lv_istore_n (lv' := [(2, .int y87_s0), (0, .ref (ag 3)), (1, .ref (z.1 a1)), (3, .int y87_l3)]) hx hb dX5_isWord_87 rfl hl (by decide) rfl (fun ls hl => ?_)
          obtain ⟨x8, ex8, h1⟩ := lt_out h1
          refine lv_iinc (v := x8) (lv' := [(3, .int x8), (2, .int y87_s0), (0, .ref (ag 3)), (1, .ref (z.1 a1))]) hx hb dX5_isWord_88 hl (k := 3) rfl (by rw [ex8]; rfl) (by decide) rfl (fun ls hl => ?_)
          refine lv_goto (tgt := 32) hx hb dX5_isWord_91 (by decide) ?_
          exact ih1 y87_s0 x8 H locs X ls (lv_sub hl [2, 3, 1, 0] rfl) (wl_l h1 hx1)
        have J86 : ∀ (y86_l3 : Int32) (H : Heap) (locs : List Loc) (X : RW D (wC ar ag ca P G ++ xs) s.heap H locs) (ls : Array Slot) (hl : lv_has ls 5 [(0, .ref (ag 3)), (1, .ref (z.1 a1)), (3, .int y86_l3)]) (h1 : b_X5_isWord_86 y86_l3 = some x_1), W p l e rm_X5_isWord s m args below meth c H locs 0 0 Q (F0 m 86 ls []) := by
          intro y86_l3 H locs X ls hl h1
          unfold b_X5_isWord_86 at h1
          refine lv_iconst (v := 0) hx hb dX5_isWord_86 (by decide) ?_
          exact J87 y86_l3 0 H locs X ls (lv_sub hl [0, 1, 2] rfl) h1
        refine lv_iload_n hx hb dX5_isWord_32 rfl (lv_at hl 3 rfl) ?_
        refine lv_aload_n hx hb dX5_isWord_33 rfl (lv_at hl 1 rfl) ?_
        obtain ⟨x2, ex2, h1⟩ := lt_out h1
        have kx2 := m_J0_length_8abf5 l D ca z (wC ar ag ca P G ++ xs) a1 ha1 x2 ex2.symm H.size
        refine z_callV K hZ X wC_fstx wC_fstx kx2 hl.1 0 q519 q323 q324 q24 q325 hv_J0_length_8abf5 ⟨⟨Nat.le_of_ble_eq_true rfl, Nat.le_of_ble_eq_true rfl⟩, rfl, rfl⟩ (z_recv hZ X wC_fstx ha1) rfl rfl (Nat.le_of_ble_eq_true rfl) dX5_isWord_34 ⟨Nat.le_of_ble_eq_true rfl, Nat.le_of_ble_eq_true rfl⟩ rfl (fun H locs X => ?_)
        refine lv_icmp_ge (tgt := 94) hx hb dX5_isWord_37 (by decide) (fun c3 => ?_) (fun c3 => ?_)
        · have h1 := if_t c3 h1
          have q1 := wl_r h1 hx1
          exact J94 z32_2 H locs X ls (lv_sub hl [2] rfl) (by rw [q1] at h0; exact h0)
        · have h1 := if_f c3 h1
          refine lv_iload_n hx hb dX5_isWord_40 rfl (lv_at hl 2 rfl) ?_
          refine lv_if_eq (tgt := 94) hx hb dX5_isWord_41 (by decide) (fun c5 => ?_) (fun c5 => ?_)
          · have h1 := if_t c5 h1
            have q1 := wl_r h1 hx1
            exact J94 z32_2 H locs X ls (lv_sub hl [2] rfl) (by rw [q1] at h0; exact h0)
          · have h1 := if_f c5 h1
            refine lv_aload_n hx hb dX5_isWord_44 rfl (lv_at hl 0 rfl) ?_
            refine g_toki K X 4 (by decide) q204 dX5_isWord_45 ?_
            refine lv_iload_n hx hb dX5_isWord_48 rfl (lv_at hl 3 rfl) ?_
            refine lv_iadd hx hb dX5_isWord_49 ?_
            obtain ⟨x6, ex6, h1⟩ := lt_out h1
            refine w_int ex6 ?_
            refine lv_istore (lv' := [(4, .int x6), (0, .ref (ag 3)), (1, .ref (z.1 a1)), (2, .int z32_2), (3, .int z32_3)]) hx hb dX5_isWord_50 hl (by decide) rfl (fun ls hl => ?_)
            refine lv_iload hx hb dX5_isWord_52 (lv_at hl 0 rfl) ?_
            refine lv_if_lt (tgt := 86) hx hb dX5_isWord_54 (by decide) (fun c7 => ?_) (fun c7 => ?_)
            · have h1 := if_t c7 h1
              exact J86 z32_3 H locs X ls (lv_sub hl [1, 2, 4] rfl) h1
            · have h1 := if_f c7 h1
              refine lv_iload hx hb dX5_isWord_57 (lv_at hl 0 rfl) ?_
              refine lv_aload_n hx hb dX5_isWord_59 rfl (lv_at hl 1 rfl) ?_
              refine g_tokr K X q199 dX5_isWord_60 ?_
              refine l_bytes K X dX5_isWord_63 ?_
              refine lv_icmp_ge (tgt := 86) hx hb dX5_isWord_64 (by decide) (fun c9 => ?_) (fun c9 => ?_)
              · have h1 := if_t c9 h1
                exact J86 z32_3 H locs X ls (lv_sub hl [1, 2, 4] rfl) h1
              · have h1 := if_f c9 h1
                refine lv_aload_n hx hb dX5_isWord_67 rfl (lv_at hl 1 rfl) ?_
                refine g_tokr K X q199 dX5_isWord_68 ?_
                refine lv_iload hx hb dX5_isWord_71 (lv_at hl 0 rfl) ?_
                refine a_bytes K X (inb_2 c7 c9 (by decide)) dX5_isWord_73 ?_
                refine lv_aload_n hx hb dX5_isWord_74 rfl (lv_at hl 2 rfl) ?_
                refine lv_iload_n hx hb dX5_isWord_75 rfl (lv_at hl 4 rfl) ?_
                obtain ⟨x10, ex10, h1⟩ := ob_out h1
                have kx10 := m_J0_charAt_5068e l D ca z (wC ar ag ca P G ++ xs) a1 ha1 z32_3 x10 ex10 H.size
                refine z_callV K hZ X wC_fstx wC_fstx kx10 hl.1 1 q520 q332 q333 q24 q334 hv_J0_charAt_5068e ⟨⟨Nat.le_of_ble_eq_true rfl, Nat.le_of_ble_eq_true rfl⟩, rfl, rfl⟩ (z_recv hZ X wC_fstx ha1) rfl rfl (Nat.le_of_ble_eq_true rfl) dX5_isWord_76 ⟨Nat.le_of_ble_eq_true rfl, Nat.le_of_ble_eq_true rfl⟩ rfl (fun H locs X => ?_)
                refine lv_icmp_ne (tgt := 86) hx hb dX5_isWord_79 (by decide) (fun c11 => ?_) (fun c11 => ?_)
                · have h1 := if_f c11 h1
                  exact J86 z32_3 H locs X ls (lv_sub hl [1, 2, 4] rfl) h1
                · have h1 := if_t c11 h1
                  refine lv_iconst (v := 1) hx hb dX5_isWord_82 (by decide) ?_
                  refine lv_goto (tgt := 87) hx hb dX5_isWord_83 (by decide) ?_
                  exact J87 z32_3 1 H locs X ls (lv_sub hl [1, 2, 4] rfl) h1
    exact K32 n y29_s0 0 H locs X ls (lv_sub hl [2, 3, 1, 0] rfl) he1
  have J28 : ∀  (H : Heap) (locs : List Loc) (X : RW D (wC ar ag ca P G ++ xs) s.heap H locs) (ls : Array Slot) (hl : lv_has ls 5 [(0, .ref (ag 3)), (1, .ref (z.1 a1))]) (h0 : b_X5_isWord_28 n G a1 = some res), W p l e rm_X5_isWord s m args below meth c H locs 0 0 Q (F0 m 28 ls []) := by
    intro  H locs X ls hl h0
    unfold b_X5_isWord_28 at h0
    refine lv_iconst (v := 0) hx hb dX5_isWord_28 (by decide) ?_
    exact J29 0 H locs X ls (lv_sub hl [0, 1] rfl) h0
  refine lv_aload_n hx hb dX5_isWord_0 rfl (lv_at hl 0 rfl) ?_
  refine g_toki K X 5 (by decide) q205 dX5_isWord_1 ?_
  refine lv_iconst (v := 1) hx hb dX5_isWord_4 (by decide) ?_
  refine lv_icmp_ne (tgt := 28) hx hb dX5_isWord_5 (by decide) (fun c1 => ?_) (fun c1 => ?_)
  · have h0 := if_f c1 h0
    exact J28  H locs X ls (lv_sub hl [0, 1] rfl) h0
  · have h0 := if_t c1 h0
    refine lv_aload_n hx hb dX5_isWord_8 rfl (lv_at hl 0 rfl) ?_
    refine g_toki K X 3 (by decide) q203 dX5_isWord_9 ?_
    refine lv_aload_n hx hb dX5_isWord_12 rfl (lv_at hl 0 rfl) ?_
    refine g_toki K X 4 (by decide) q204 dX5_isWord_13 ?_
    refine lv_isub hx hb dX5_isWord_16 ?_
    refine lv_aload_n hx hb dX5_isWord_17 rfl (lv_at hl 1 rfl) ?_
    obtain ⟨x12, ex12, h0⟩ := lt_out h0
    have kx12 := m_J0_length_8abf5 l D ca z (wC ar ag ca P G ++ xs) a1 ha1 x12 ex12.symm H.size
    refine z_callV K hZ X wC_fstx wC_fstx kx12 hl.1 0 q519 q323 q324 q24 q325 hv_J0_length_8abf5 ⟨⟨Nat.le_of_ble_eq_true rfl, Nat.le_of_ble_eq_true rfl⟩, rfl, rfl⟩ (z_recv hZ X wC_fstx ha1) rfl rfl (Nat.le_of_ble_eq_true rfl) dX5_isWord_18 ⟨Nat.le_of_ble_eq_true rfl, Nat.le_of_ble_eq_true rfl⟩ rfl (fun H locs X => ?_)
    refine lv_icmp_ne (tgt := 28) hx hb dX5_isWord_21 (by decide) (fun c13 => ?_) (fun c13 => ?_)
    · have h0 := if_f c13 h0
      exact J28  H locs X ls (lv_sub hl [0, 1] rfl) h0
    · have h0 := if_t c13 h0
      refine lv_iconst (v := 1) hx hb dX5_isWord_24 (by decide) ?_
      refine lv_goto (tgt := 29) hx hb dX5_isWord_25 (by decide) ?_
      exact J29 1 H locs X ls (lv_sub hl [0, 1] rfl) h0
-- X5_isSign
def f_X5_isSign (G : GlbS) (a1 : Int32) : Bool :=
  if (G 3 5) = 3 then
    lt (f_X5_byteAt G (G 3 4)) fun x2 =>
    if x2 = a1 then
      true
    else
      false
  else
    false
abbrev rm_X5_isSign : Room := { frames := 1, cells := 0, slots := 0, locals := 21 }
set_option maxRecDepth 100000 in
set_option maxHeartbeats 4000000 in
theorem m_X5_isSign (l : Launch) (D : va_G) (ca : Nat → ClassId) (ar : Nat → Nat → Nat) (ag : Nat → Nat) (P : RowsS) (G : GlbS) (xs : va_W) (a1 : Int32) (res : Bool) (h0 : f_X5_isSign G a1 = res) (sz : Nat) : Met l yX5_isSign (ws_ yX5_isSign cX5_isSign 2 (some .boolean)) rm_X5_isSign (PCw D ca (wC ar ag ca P G ++ xs) sz [.ref (ag 3), .int a1]) (QMw D (wC ar ag ca P G ++ xs) (wC ar ag ca P G ++ xs) sz (some (.int (b2i res)))) 0 0 (AL (wC ar ag ca P G ++ xs) sz) := by
  refine met_of (by decide) (Nat.le_of_ble_eq_true rfl) (fun p e s m args below meth c K hr0 X hsz ls hl => ?_)
  have K : MC D ca p s m args meth c cX5_isSign 2 RX5 := K
  have hx := K.1
  have hb := K.2.1
  have hl : lv_has ls 2 [(0, .ref (ag 3)), (1, .int a1)] := hl
  generalize hQ : MQ below _ args s 0 0 _ = Q
  unfold f_X5_isSign at h0
  suffices Z : ∀ (H : Heap) (locs : List Loc) (X : RW D (wC ar ag ca P G ++ xs) s.heap H locs), W p l e rm_X5_isSign s m args below meth c H locs 0 0 Q (F0 m 0 ls []) from Z _ _ X
  intro H locs X
  refine lv_aload_n hx hb dX5_isSign_0 rfl (lv_at hl 0 rfl) ?_
  refine g_toki K X 5 (by decide) q205 dX5_isSign_1 ?_
  refine lv_iconst (v := 3) hx hb dX5_isSign_4 (by decide) ?_
  refine lv_icmp_ne (tgt := 24) hx hb dX5_isSign_5 (by decide) (fun c1 => ?_) (fun c1 => ?_)
  · have h0 := if_f c1 h0
    refine lv_iconst (v := 0) hx hb dX5_isSign_24 (by decide) ?_
    subst h0
    subst hQ
    refine w_int (y := b2i false) (by decide) ?_
    exact w_zret K hr0 X wC_fstx hsz (b2i_nar _) dX5_isSign_25
  · have h0 := if_t c1 h0
    refine lv_aload_n hx hb dX5_isSign_8 rfl (lv_at hl 0 rfl) ?_
    refine lv_aload_n hx hb dX5_isSign_9 rfl (lv_at hl 0 rfl) ?_
    refine g_toki K X 4 (by decide) q204 dX5_isSign_10 ?_
    obtain ⟨x2, ex2, h0⟩ := lt_out h0
    have kx2 := m_X5_byteAt l D ca ar ag P G xs (G 3 4) x2 ex2.symm H.size
    refine w_callV0 K X wC_fstx kx2 hl.1 1 q482 q484 q5 q21 q485 hv_X5_byteAt ⟨⟨Nat.le_of_ble_eq_true rfl, Nat.le_of_ble_eq_true rfl⟩, rfl, rfl⟩ (pl_glb (k := 3) (by decide)) rfl rfl rfl rfl (Nat.le_of_ble_eq_true rfl) dX5_isSign_13 ⟨Nat.le_of_ble_eq_true rfl, Nat.le_of_ble_eq_true rfl⟩ rfl (fun H locs X => ?_)
    refine lv_iload_n hx hb dX5_isSign_16 rfl (lv_at hl 1 rfl) ?_
    refine lv_icmp_ne (tgt := 24) hx hb dX5_isSign_17 (by decide) (fun c3 => ?_) (fun c3 => ?_)
    · have h0 := if_f c3 h0
      refine lv_iconst (v := 0) hx hb dX5_isSign_24 (by decide) ?_
      subst h0
      subst hQ
      refine w_int (y := b2i false) (by decide) ?_
      exact w_zret K hr0 X wC_fstx hsz (b2i_nar _) dX5_isSign_25
    · have h0 := if_t c3 h0
      refine lv_iconst (v := 1) hx hb dX5_isSign_20 (by decide) ?_
      refine lv_goto (tgt := 25) hx hb dX5_isSign_21 (by decide) ?_
      subst h0
      subst hQ
      refine w_int (y := b2i true) (by decide) ?_
      exact w_zret K hr0 X wC_fstx hsz (b2i_nar _) dX5_isSign_25
-- X5_takeWord
def f_X5_takeWord (n : Nat) (G : GlbS) (a1 : Nat) : Option GlbS :=
  ob (f_X5_isWord n G a1) fun x1 =>
  if x1 = true then
    ob (f_X5_advance n G) fun x5 =>
    lt (x5) fun Gv6 =>
    some Gv6
  else
    lt (f_X5_fail G 1) fun x3 =>
    lt (x3) fun Gv4 =>
    some Gv4
abbrev rm_X5_takeWord : Room := { frames := 5, cells := 0, slots := 0, locals := 109 }
set_option maxRecDepth 100000 in
set_option maxHeartbeats 4000000 in
theorem m_X5_takeWord (l : Launch) (D : va_G) (ca : Nat → ClassId) (ar : Nat → Nat → Nat) (ag : Nat → Nat) (z : ZG) (n : Nat) (P : RowsS) (G : GlbS) (xs : va_W) (a1 : Nat) (ha1 : a1 < 21) (G' : GlbS) (h0 : f_X5_takeWord n G a1 = some G') (sz : Nat) : Met l yX5_takeWord (ws_ yX5_takeWord cX5_takeWord 2 none) rm_X5_takeWord (PCz z D ca (wC ar ag ca P G ++ xs) sz [.ref (ag 3), .ref (z.1 a1)]) (QMw D (wC ar ag ca P G ++ xs) (wC ar ag ca P (G') ++ xs) sz none) 0 0 (AL (wC ar ag ca P G ++ xs) sz) := by
  refine met_z (by decide +kernel) (Nat.le_of_ble_eq_true rfl) (fun p e s m args below meth c K hr0 hZ X hsz ls hl => ?_)
  have K : MC D ca p s m args meth c cX5_takeWord 2 RX5 := K
  have hx := K.1
  have hb := K.2.1
  have hl : lv_has ls 2 [(0, .ref (ag 3)), (1, .ref (z.1 a1))] := hl
  generalize hQ : MQ below _ args s 0 0 _ = Q
  unfold f_X5_takeWord at h0
  suffices Z : ∀ (H : Heap) (locs : List Loc) (X : RW D (wC ar ag ca P G ++ xs) s.heap H locs), W p l e rm_X5_takeWord s m args below meth c H locs 0 0 Q (F0 m 0 ls []) from Z _ _ X
  intro H locs X
  refine lv_aload_n hx hb dX5_takeWord_0 rfl (lv_at hl 0 rfl) ?_
  refine lv_aload_n hx hb dX5_takeWord_1 rfl (lv_at hl 1 rfl) ?_
  obtain ⟨x1, ex1, h0⟩ := ob_out h0
  have kx1 := m_X5_isWord l D ca ar ag z n P G xs a1 ha1 x1 ex1 H.size
  refine z_callV K hZ X wC_fstx wC_fstx kx1 hl.1 1 q515 q516 q517 q21 q518 hv_X5_isWord ⟨⟨Nat.le_of_ble_eq_true rfl, Nat.le_of_ble_eq_true rfl⟩, rfl, rfl⟩ (z_recvw K X (pl_glb (k := 3) (by decide)) rfl rfl) rfl rfl (Nat.le_of_ble_eq_true rfl) dX5_takeWord_2 ⟨Nat.le_of_ble_eq_true rfl, Nat.le_of_ble_eq_true rfl⟩ rfl (fun H locs X => ?_)
  refine w_zeq (tgt := 15) K dX5_takeWord_5 (by decide) (fun c2 => ?_) (fun c2 => ?_)
  · have h0 := if_f c2 h0
    refine lv_aload_n hx hb dX5_takeWord_15 rfl (lv_at hl 0 rfl) ?_
    refine lv_iconst (v := 1) hx hb dX5_takeWord_16 (by decide) ?_
    obtain ⟨x3, ex3, h0⟩ := lt_out h0
    obtain ⟨Gv4, eGv4, h0⟩ := lt_out h0
    have kx3 := m_X5_fail l D ca ar ag P G xs 1 x3 ex3.symm H.size
    rw [← eGv4] at kx3
    refine w_callV0 K X wC_fstx kx3 hl.1 1 q521 q522 q523 q21 q524 hv_X5_fail ⟨⟨Nat.le_of_ble_eq_true rfl, Nat.le_of_ble_eq_true rfl⟩, rfl, rfl⟩ (pl_glb (k := 3) (by decide)) rfl rfl rfl rfl (Nat.le_of_ble_eq_true rfl) dX5_takeWord_17 ⟨Nat.le_of_ble_eq_true rfl, Nat.le_of_ble_eq_true rfl⟩ rfl (fun H locs X => ?_)
    have h0 := Option.some.inj h0
    subst h0
    subst hQ
    exact w_vret K hr0 X wC_fstx hsz dX5_takeWord_20
  · have h0 := if_t c2 h0
    refine lv_aload_n hx hb dX5_takeWord_8 rfl (lv_at hl 0 rfl) ?_
    obtain ⟨x5, ex5, h0⟩ := ob_out h0
    obtain ⟨Gv6, eGv6, h0⟩ := lt_out h0
    have kx5 := m_X5_advance l D ca ar ag n P G xs x5 ex5 H.size
    rw [← eGv6] at kx5
    refine w_callV0 K X wC_fstx kx5 hl.1 0 q478 q479 q480 q21 q481 hv_X5_advance ⟨⟨Nat.le_of_ble_eq_true rfl, Nat.le_of_ble_eq_true rfl⟩, rfl, rfl⟩ (pl_glb (k := 3) (by decide)) rfl rfl rfl rfl (Nat.le_of_ble_eq_true rfl) dX5_takeWord_9 ⟨Nat.le_of_ble_eq_true rfl, Nat.le_of_ble_eq_true rfl⟩ rfl (fun H locs X => ?_)
    refine lv_goto (tgt := 20) hx hb dX5_takeWord_12 (by decide) ?_
    have h0 := Option.some.inj h0
    subst h0
    subst hQ
    exact w_vret K hr0 X wC_fstx hsz dX5_takeWord_20
-- X5_takeSign
def f_X5_takeSign (n : Nat) (G : GlbS) (a1 : Int32) : Option GlbS :=
  lt (f_X5_isSign G a1) fun x1 =>
  if x1 = true then
    ob (f_X5_advance n G) fun x5 =>
    lt (x5) fun Gv6 =>
    some Gv6
  else
    lt (f_X5_fail G 1) fun x3 =>
    lt (x3) fun Gv4 =>
    some Gv4
abbrev rm_X5_takeSign : Room := { frames := 2, cells := 0, slots := 0, locals := 42 }
set_option maxRecDepth 100000 in
set_option maxHeartbeats 4000000 in
theorem m_X5_takeSign (l : Launch) (D : va_G) (ca : Nat → ClassId) (ar : Nat → Nat → Nat) (ag : Nat → Nat) (n : Nat) (P : RowsS) (G : GlbS) (xs : va_W) (a1 : Int32) (G' : GlbS) (h0 : f_X5_takeSign n G a1 = some G') (sz : Nat) : Met l yX5_takeSign (ws_ yX5_takeSign cX5_takeSign 2 none) rm_X5_takeSign (PCw D ca (wC ar ag ca P G ++ xs) sz [.ref (ag 3), .int a1]) (QMw D (wC ar ag ca P G ++ xs) (wC ar ag ca P (G') ++ xs) sz none) 0 0 (AL (wC ar ag ca P G ++ xs) sz) := by
  refine met_of (by decide) (Nat.le_of_ble_eq_true rfl) (fun p e s m args below meth c K hr0 X hsz ls hl => ?_)
  have K : MC D ca p s m args meth c cX5_takeSign 2 RX5 := K
  have hx := K.1
  have hb := K.2.1
  have hl : lv_has ls 2 [(0, .ref (ag 3)), (1, .int a1)] := hl
  generalize hQ : MQ below _ args s 0 0 _ = Q
  unfold f_X5_takeSign at h0
  suffices Z : ∀ (H : Heap) (locs : List Loc) (X : RW D (wC ar ag ca P G ++ xs) s.heap H locs), W p l e rm_X5_takeSign s m args below meth c H locs 0 0 Q (F0 m 0 ls []) from Z _ _ X
  intro H locs X
  refine lv_aload_n hx hb dX5_takeSign_0 rfl (lv_at hl 0 rfl) ?_
  refine lv_iload_n hx hb dX5_takeSign_1 rfl (lv_at hl 1 rfl) ?_
  obtain ⟨x1, ex1, h0⟩ := lt_out h0
  have kx1 := m_X5_isSign l D ca ar ag P G xs a1 x1 ex1.symm H.size
  refine w_callV0 K X wC_fstx kx1 hl.1 1 q535 q536 q537 q21 q538 hv_X5_isSign ⟨⟨Nat.le_of_ble_eq_true rfl, Nat.le_of_ble_eq_true rfl⟩, rfl, rfl⟩ (pl_glb (k := 3) (by decide)) rfl rfl rfl rfl (Nat.le_of_ble_eq_true rfl) dX5_takeSign_2 ⟨Nat.le_of_ble_eq_true rfl, Nat.le_of_ble_eq_true rfl⟩ rfl (fun H locs X => ?_)
  refine w_zeq (tgt := 15) K dX5_takeSign_5 (by decide) (fun c2 => ?_) (fun c2 => ?_)
  · have h0 := if_f c2 h0
    refine lv_aload_n hx hb dX5_takeSign_15 rfl (lv_at hl 0 rfl) ?_
    refine lv_iconst (v := 1) hx hb dX5_takeSign_16 (by decide) ?_
    obtain ⟨x3, ex3, h0⟩ := lt_out h0
    obtain ⟨Gv4, eGv4, h0⟩ := lt_out h0
    have kx3 := m_X5_fail l D ca ar ag P G xs 1 x3 ex3.symm H.size
    rw [← eGv4] at kx3
    refine w_callV0 K X wC_fstx kx3 hl.1 1 q521 q522 q523 q21 q524 hv_X5_fail ⟨⟨Nat.le_of_ble_eq_true rfl, Nat.le_of_ble_eq_true rfl⟩, rfl, rfl⟩ (pl_glb (k := 3) (by decide)) rfl rfl rfl rfl (Nat.le_of_ble_eq_true rfl) dX5_takeSign_17 ⟨Nat.le_of_ble_eq_true rfl, Nat.le_of_ble_eq_true rfl⟩ rfl (fun H locs X => ?_)
    have h0 := Option.some.inj h0
    subst h0
    subst hQ
    exact w_vret K hr0 X wC_fstx hsz dX5_takeSign_20
  · have h0 := if_t c2 h0
    refine lv_aload_n hx hb dX5_takeSign_8 rfl (lv_at hl 0 rfl) ?_
    obtain ⟨x5, ex5, h0⟩ := ob_out h0
    obtain ⟨Gv6, eGv6, h0⟩ := lt_out h0
    have kx5 := m_X5_advance l D ca ar ag n P G xs x5 ex5 H.size
    rw [← eGv6] at kx5
    refine w_callV0 K X wC_fstx kx5 hl.1 0 q478 q479 q480 q21 q481 hv_X5_advance ⟨⟨Nat.le_of_ble_eq_true rfl, Nat.le_of_ble_eq_true rfl⟩, rfl, rfl⟩ (pl_glb (k := 3) (by decide)) rfl rfl rfl rfl (Nat.le_of_ble_eq_true rfl) dX5_takeSign_9 ⟨Nat.le_of_ble_eq_true rfl, Nat.le_of_ble_eq_true rfl⟩ rfl (fun H locs X => ?_)
    refine lv_goto (tgt := 20) hx hb dX5_takeSign_12 (by decide) ?_
    have h0 := Option.some.inj h0
    subst h0
    subst hQ
    exact w_vret K hr0 X wC_fstx hsz dX5_takeSign_20
-- X5_takeNumber
def b_X5_takeNumber_30 (a1 : Int32) (G_30 : GlbS) : Option (Int32 × GlbS) :=
  lt (f_X5_fail G_30 2) fun x4 =>
  lt (x4) fun Gv5 =>
  some (a1, Gv5)
def f_X5_takeNumber (n : Nat) (G : GlbS) (a1 : Int32) (a2 : Int32) : Option (Int32 × GlbS) :=
  lt (G 3 6) fun x1 =>
  if (G 3 5) = 2 then
    if x1 < a1 then
      b_X5_takeNumber_30 a1 G
    else
      if x1 ≤ a2 then
        ob (f_X5_advance n G) fun x7 =>
        lt (x7) fun Gv8 =>
        some (x1, Gv8)
      else
        b_X5_takeNumber_30 a1 G
  else
    lt (f_X5_fail G 1) fun x9 =>
    lt (x9) fun Gv10 =>
    some (a1, Gv10)
abbrev rm_X5_takeNumber : Room := { frames := 2, cells := 0, slots := 0, locals := 41 }
set_option maxRecDepth 100000 in
set_option maxHeartbeats 4000000 in
theorem m_X5_takeNumber (l : Launch) (D : va_G) (ca : Nat → ClassId) (ar : Nat → Nat → Nat) (ag : Nat → Nat) (n : Nat) (P : RowsS) (G : GlbS) (xs : va_W) (a1 : Int32) (a2 : Int32) (res : Int32) (G' : GlbS) (h0 : f_X5_takeNumber n G a1 a2 = some (res, G')) (sz : Nat) : Met l yX5_takeNumber (ws_ yX5_takeNumber cX5_takeNumber 4 (some .int)) rm_X5_takeNumber (PCw D ca (wC ar ag ca P G ++ xs) sz [.ref (ag 3), .int a1, .int a2]) (QMw D (wC ar ag ca P G ++ xs) (wC ar ag ca P (G') ++ xs) sz (some (.int res))) 0 0 (AL (wC ar ag ca P G ++ xs) sz) := by
  refine met_of (by decide) (Nat.le_of_ble_eq_true rfl) (fun p e s m args below meth c K hr0 X hsz ls hl => ?_)
  have K : MC D ca p s m args meth c cX5_takeNumber 4 RX5 := K
  have hx := K.1
  have hb := K.2.1
  have hl : lv_has ls 4 [(0, .ref (ag 3)), (1, .int a1), (2, .int a2)] := hl
  generalize hQ : MQ below _ args s 0 0 _ = Q
  unfold f_X5_takeNumber at h0
  suffices Z : ∀ (H : Heap) (locs : List Loc) (X : RW D (wC ar ag ca P G ++ xs) s.heap H locs), W p l e rm_X5_takeNumber s m args below meth c H locs 0 0 Q (F0 m 0 ls []) from Z _ _ X
  intro H locs X
  have J30 : ∀ (G_30 : GlbS) (H : Heap) (locs : List Loc) (X : RW D (wC ar ag ca P G_30 ++ xs) s.heap H locs) (ls : Array Slot) (hl : lv_has ls 4 [(0, .ref (ag 3)), (1, .int a1)]) (h0 : b_X5_takeNumber_30 a1 G_30 = some (res, G')), W p l e rm_X5_takeNumber s m args below meth c H locs 0 0 Q (F0 m 30 ls []) := by
    intro G_30 H locs X ls hl h0
    unfold b_X5_takeNumber_30 at h0
    refine lv_aload_n hx hb dX5_takeNumber_30 rfl (lv_at hl 0 rfl) ?_
    refine lv_iconst (v := 2) hx hb dX5_takeNumber_31 (by decide) ?_
    obtain ⟨x4, ex4, h0⟩ := lt_out h0
    obtain ⟨Gv5, eGv5, h0⟩ := lt_out h0
    have kx4 := m_X5_fail l D ca ar ag P G_30 xs 2 x4 ex4.symm H.size
    rw [← eGv5] at kx4
    refine w_callV0 K X wC_fstx kx4 hl.1 1 q521 q522 q523 q21 q524 hv_X5_fail ⟨⟨Nat.le_of_ble_eq_true rfl, Nat.le_of_ble_eq_true rfl⟩, rfl, rfl⟩ (pl_glb (k := 3) (by decide)) rfl rfl rfl rfl (Nat.le_of_ble_eq_true rfl) dX5_takeNumber_32 ⟨Nat.le_of_ble_eq_true rfl, Nat.le_of_ble_eq_true rfl⟩ rfl (fun H locs X => ?_)
    refine lv_iload_n hx hb dX5_takeNumber_35 rfl (lv_at hl 1 rfl) ?_
    have h0 := Option.some.inj h0
    obtain ⟨q_0, q_1⟩ := Prod.mk.inj h0
    subst q_0
    subst q_1
    subst hQ
    exact w_iret K hr0 X wC_fstx hsz dX5_takeNumber_36
  refine lv_aload_n hx hb dX5_takeNumber_0 rfl (lv_at hl 0 rfl) ?_
  refine g_toki K X 6 (by decide) q206 dX5_takeNumber_1 ?_
  obtain ⟨x1, ex1, h0⟩ := lt_out h0
  refine w_int ex1 ?_
  refine lv_istore_n (lv' := [(3, .int x1), (0, .ref (ag 3)), (1, .int a1), (2, .int a2)]) hx hb dX5_takeNumber_4 rfl hl (by decide) rfl (fun ls hl => ?_)
  refine lv_aload_n hx hb dX5_takeNumber_5 rfl (lv_at hl 1 rfl) ?_
  refine g_toki K X 5 (by decide) q205 dX5_takeNumber_6 ?_
  refine lv_iconst (v := 2) hx hb dX5_takeNumber_9 (by decide) ?_
  refine lv_icmp_eq (tgt := 20) hx hb dX5_takeNumber_10 (by decide) (fun c2 => ?_) (fun c2 => ?_)
  · have h0 := if_t c2 h0
    refine lv_iload_n hx hb dX5_takeNumber_20 rfl (lv_at hl 0 rfl) ?_
    refine lv_iload_n hx hb dX5_takeNumber_21 rfl (lv_at hl 2 rfl) ?_
    refine lv_icmp_lt (tgt := 30) hx hb dX5_takeNumber_22 (by decide) (fun c3 => ?_) (fun c3 => ?_)
    · have h0 := if_t c3 h0
      exact J30 G H locs X ls (lv_sub hl [1, 2] rfl) h0
    · have h0 := if_f c3 h0
      refine lv_iload_n hx hb dX5_takeNumber_25 rfl (lv_at hl 0 rfl) ?_
      refine lv_iload_n hx hb dX5_takeNumber_26 rfl (lv_at hl 3 rfl) ?_
      refine lv_icmp_le (tgt := 37) hx hb dX5_takeNumber_27 (by decide) (fun c6 => ?_) (fun c6 => ?_)
      · have h0 := if_t c6 h0
        refine lv_aload_n hx hb dX5_takeNumber_37 rfl (lv_at hl 1 rfl) ?_
        obtain ⟨x7, ex7, h0⟩ := ob_out h0
        obtain ⟨Gv8, eGv8, h0⟩ := lt_out h0
        have kx7 := m_X5_advance l D ca ar ag n P G xs x7 ex7 H.size
        rw [← eGv8] at kx7
        refine w_callV0 K X wC_fstx kx7 hl.1 0 q478 q479 q480 q21 q481 hv_X5_advance ⟨⟨Nat.le_of_ble_eq_true rfl, Nat.le_of_ble_eq_true rfl⟩, rfl, rfl⟩ (pl_glb (k := 3) (by decide)) rfl rfl rfl rfl (Nat.le_of_ble_eq_true rfl) dX5_takeNumber_38 ⟨Nat.le_of_ble_eq_true rfl, Nat.le_of_ble_eq_true rfl⟩ rfl (fun H locs X => ?_)
        refine lv_iload_n hx hb dX5_takeNumber_41 rfl (lv_at hl 0 rfl) ?_
        have h0 := Option.some.inj h0
        obtain ⟨q_0, q_1⟩ := Prod.mk.inj h0
        subst q_0
        subst q_1
        subst hQ
        exact w_iret K hr0 X wC_fstx hsz dX5_takeNumber_42
      · have h0 := if_f c6 h0
        exact J30 G H locs X ls (lv_sub hl [1, 2] rfl) h0
  · have h0 := if_f c2 h0
    refine lv_aload_n hx hb dX5_takeNumber_13 rfl (lv_at hl 1 rfl) ?_
    refine lv_iconst (v := 1) hx hb dX5_takeNumber_14 (by decide) ?_
    obtain ⟨x9, ex9, h0⟩ := lt_out h0
    obtain ⟨Gv10, eGv10, h0⟩ := lt_out h0
    have kx9 := m_X5_fail l D ca ar ag P G xs 1 x9 ex9.symm H.size
    rw [← eGv10] at kx9
    refine w_callV0 K X wC_fstx kx9 hl.1 1 q521 q522 q523 q21 q524 hv_X5_fail ⟨⟨Nat.le_of_ble_eq_true rfl, Nat.le_of_ble_eq_true rfl⟩, rfl, rfl⟩ (pl_glb (k := 3) (by decide)) rfl rfl rfl rfl (Nat.le_of_ble_eq_true rfl) dX5_takeNumber_15 ⟨Nat.le_of_ble_eq_true rfl, Nat.le_of_ble_eq_true rfl⟩ rfl (fun H locs X => ?_)
    refine lv_iload_n hx hb dX5_takeNumber_18 rfl (lv_at hl 2 rfl) ?_
    have h0 := Option.some.inj h0
    obtain ⟨q_0, q_1⟩ := Prod.mk.inj h0
    subst q_0
    subst q_1
    subst hQ
    exact w_iret K hr0 X wC_fstx hsz dX5_takeNumber_19
-- X5_takeSigned
def b_X5_takeSigned_15 (n : Nat) (y15_l1 : Bool) (G_15 : GlbS) : Option (Int32 × GlbS) :=
  ob (f_X5_takeNumber n G_15 0 9999) fun x3 =>
  lt (x3.2) fun Gv4 =>
  lt (x3.1) fun x5 =>
  if y15_l1 = true then
    some ((-x5), Gv4)
  else
    some (x5, Gv4)
def f_X5_takeSigned (n : Nat) (G : GlbS) : Option (Int32 × GlbS) :=
  lt (f_X5_isSign G 45) fun x1 =>
  if x1 = true then
    ob (f_X5_advance n G) fun x7 =>
    lt (x7) fun Gv8 =>
    b_X5_takeSigned_15 n x1 Gv8
  else
    b_X5_takeSigned_15 n x1 G
abbrev rm_X5_takeSigned : Room := { frames := 3, cells := 0, slots := 0, locals := 64 }
set_option maxRecDepth 100000 in
set_option maxHeartbeats 4000000 in
theorem m_X5_takeSigned (l : Launch) (D : va_G) (ca : Nat → ClassId) (ar : Nat → Nat → Nat) (ag : Nat → Nat) (n : Nat) (P : RowsS) (G : GlbS) (xs : va_W) (res : Int32) (G' : GlbS) (h0 : f_X5_takeSigned n G = some (res, G')) (sz : Nat) : Met l yX5_takeSigned (ws_ yX5_takeSigned cX5_takeSigned 3 (some .int)) rm_X5_takeSigned (PCw D ca (wC ar ag ca P G ++ xs) sz [.ref (ag 3)]) (QMw D (wC ar ag ca P G ++ xs) (wC ar ag ca P (G') ++ xs) sz (some (.int res))) 0 0 (AL (wC ar ag ca P G ++ xs) sz) := by
  refine met_of (by decide) (Nat.le_of_ble_eq_true rfl) (fun p e s m args below meth c K hr0 X hsz ls hl => ?_)
  have K : MC D ca p s m args meth c cX5_takeSigned 3 RX5 := K
  have hx := K.1
  have hb := K.2.1
  have hl : lv_has ls 3 [(0, .ref (ag 3))] := hl
  generalize hQ : MQ below _ args s 0 0 _ = Q
  unfold f_X5_takeSigned at h0
  suffices Z : ∀ (H : Heap) (locs : List Loc) (X : RW D (wC ar ag ca P G ++ xs) s.heap H locs), W p l e rm_X5_takeSigned s m args below meth c H locs 0 0 Q (F0 m 0 ls []) from Z _ _ X
  intro H locs X
  have J15 : ∀ (y15_l1 : Bool) (G_15 : GlbS) (H : Heap) (locs : List Loc) (X : RW D (wC ar ag ca P G_15 ++ xs) s.heap H locs) (ls : Array Slot) (hl : lv_has ls 3 [(0, .ref (ag 3)), (1, .int (b2i y15_l1))]) (h0 : b_X5_takeSigned_15 n y15_l1 G_15 = some (res, G')), W p l e rm_X5_takeSigned s m args below meth c H locs 0 0 Q (F0 m 15 ls []) := by
    intro y15_l1 G_15 H locs X ls hl h0
    unfold b_X5_takeSigned_15 at h0
    refine lv_aload_n hx hb dX5_takeSigned_15 rfl (lv_at hl 0 rfl) ?_
    refine lv_iconst (v := 0) hx hb dX5_takeSigned_16 (by decide) ?_
    refine lv_sipush (v := 9999) hx hb dX5_takeSigned_17 (by decide) ?_
    obtain ⟨x3, ex3, h0⟩ := ob_out h0
    obtain ⟨Gv4, eGv4, h0⟩ := lt_out h0
    have kx3 := m_X5_takeNumber l D ca ar ag n P G_15 xs 0 9999 x3.1 x3.2 ex3 H.size
    rw [← eGv4] at kx3
    refine w_callV0 K X wC_fstx kx3 hl.1 2 q562 q526 q527 q21 q528 hv_X5_takeNumber ⟨⟨Nat.le_of_ble_eq_true rfl, Nat.le_of_ble_eq_true rfl⟩, rfl, rfl⟩ (pl_glb (k := 3) (by decide)) rfl rfl rfl rfl (Nat.le_of_ble_eq_true rfl) dX5_takeSigned_20 ⟨Nat.le_of_ble_eq_true rfl, Nat.le_of_ble_eq_true rfl⟩ rfl (fun H locs X => ?_)
    obtain ⟨x5, ex5, h0⟩ := lt_out h0
    refine w_int ex5 ?_
    refine lv_istore_n (lv' := [(2, .int x5), (0, .ref (ag 3)), (1, .int (b2i y15_l1))]) hx hb dX5_takeSigned_23 rfl hl (by decide) rfl (fun ls hl => ?_)
    refine lv_iload_n hx hb dX5_takeSigned_24 rfl (lv_at hl 2 rfl) ?_
    refine w_zeq (tgt := 33) K dX5_takeSigned_25 (by decide) (fun c6 => ?_) (fun c6 => ?_)
    · have h0 := if_f c6 h0
      refine lv_iload_n hx hb dX5_takeSigned_33 rfl (lv_at hl 0 rfl) ?_
      have h0 := Option.some.inj h0
      obtain ⟨q_0, q_1⟩ := Prod.mk.inj h0
      subst q_0
      subst q_1
      subst hQ
      exact w_iret K hr0 X wC_fstx hsz dX5_takeSigned_34
    · have h0 := if_t c6 h0
      refine lv_iload_n hx hb dX5_takeSigned_28 rfl (lv_at hl 0 rfl) ?_
      refine lv_ineg hx hb dX5_takeSigned_29 ?_
      refine lv_goto (tgt := 34) hx hb dX5_takeSigned_30 (by decide) ?_
      have h0 := Option.some.inj h0
      obtain ⟨q_0, q_1⟩ := Prod.mk.inj h0
      subst q_0
      subst q_1
      subst hQ
      exact w_iret K hr0 X wC_fstx hsz dX5_takeSigned_34
  refine lv_aload_n hx hb dX5_takeSigned_0 rfl (lv_at hl 0 rfl) ?_
  refine lv_bipush (v := 45) hx hb dX5_takeSigned_1 (by decide) ?_
  obtain ⟨x1, ex1, h0⟩ := lt_out h0
  have kx1 := m_X5_isSign l D ca ar ag P G xs 45 x1 ex1.symm H.size
  refine w_callV0 K X wC_fstx kx1 hl.1 1 q535 q536 q537 q21 q538 hv_X5_isSign ⟨⟨Nat.le_of_ble_eq_true rfl, Nat.le_of_ble_eq_true rfl⟩, rfl, rfl⟩ (pl_glb (k := 3) (by decide)) rfl rfl rfl rfl (Nat.le_of_ble_eq_true rfl) dX5_takeSigned_3 ⟨Nat.le_of_ble_eq_true rfl, Nat.le_of_ble_eq_true rfl⟩ rfl (fun H locs X => ?_)
  refine lv_istore_n (lv' := [(1, .int (b2i x1)), (0, .ref (ag 3))]) hx hb dX5_takeSigned_6 rfl hl (by decide) rfl (fun ls hl => ?_)
  refine lv_iload_n hx hb dX5_takeSigned_7 rfl (lv_at hl 0 rfl) ?_
  refine w_zeq (tgt := 15) K dX5_takeSigned_8 (by decide) (fun c2 => ?_) (fun c2 => ?_)
  · have h0 := if_f c2 h0
    exact J15 x1 G H locs X ls (lv_sub hl [1, 0] rfl) h0
  · have h0 := if_t c2 h0
    refine lv_aload_n hx hb dX5_takeSigned_11 rfl (lv_at hl 1 rfl) ?_
    obtain ⟨x7, ex7, h0⟩ := ob_out h0
    obtain ⟨Gv8, eGv8, h0⟩ := lt_out h0
    have kx7 := m_X5_advance l D ca ar ag n P G xs x7 ex7 H.size
    rw [← eGv8] at kx7
    refine w_callV0 K X wC_fstx kx7 hl.1 0 q478 q479 q480 q21 q481 hv_X5_advance ⟨⟨Nat.le_of_ble_eq_true rfl, Nat.le_of_ble_eq_true rfl⟩, rfl, rfl⟩ (pl_glb (k := 3) (by decide)) rfl rfl rfl rfl (Nat.le_of_ble_eq_true rfl) dX5_takeSigned_12 ⟨Nat.le_of_ble_eq_true rfl, Nat.le_of_ble_eq_true rfl⟩ rfl (fun H locs X => ?_)
    exact J15 x1 Gv8 H locs X ls (lv_sub hl [1, 0] rfl) h0
