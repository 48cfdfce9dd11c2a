-- X8_thrown
def f_X8_thrown (M : RowS) : Int32 :=
  (M.1 0 0)
abbrev rm_X8_thrown : Room := { frames := 0, cells := 0, slots := 0, locals := 0 }
set_option maxRecDepth 100000 in
set_option maxHeartbeats 4000000 in
theorem m_X8_thrown (l : Launch) (D : va_G) (ca : Nat → ClassId) (am : Nat → Nat) (M : RowS) (xs : va_W) (res : Int32) (h0 : f_X8_thrown M = res) (sz : Nat) : Met l yX8_thrown (ws_ yX8_thrown cX8_thrown 1 (some .int)) rm_X8_thrown (PCw D ca (wM am ca M ++ xs) sz [.ref (am 0)]) (QMw D (wM am ca M ++ xs) (wM am ca M ++ xs) sz (some (.int res))) 0 0 (AL (wM am ca M ++ xs) sz) := by
  refine met_of (by decide) (Nat.le_of_ble_eq_true rfl) (fun p e s m args below meth c K hr0 X hsz ls hl => ?_)
  have K : MC D ca p s m args meth c cX8_thrown 1 RX8 := K
  have hx := K.1
  have hb := K.2.1
  have hl : lv_has ls 1 [(0, .ref (am 0))] := hl
  generalize hQ : MQ below _ args s 0 0 _ = Q
  unfold f_X8_thrown at h0
  suffices Z : ∀ (H : Heap) (locs : List Loc) (X : RW D (wM am ca M ++ xs) s.heap H locs), W p l e rm_X8_thrown s m args below meth c H locs 0 0 Q (F0 m 0 ls []) from Z _ _ X
  intro H locs X
  refine lv_aload_n hx hb dX8_thrown_0 rfl (lv_at hl 0 rfl) ?_
  refine g_modi K X 0 (by decide) (fun _ _ => rfl) q1399 dX8_thrown_1 ?_
  subst h0
  subst hQ
  exact w_iret K hr0 X wM_fstx hsz dX8_thrown_4
-- X8_in
def f_X8_in (a1 : Int64) (a2 : Int64) (a3 : Int64) : Bool :=
  if a1 < a2 then
    false
  else
    if a3 < a1 then
      false
    else
      true
abbrev rm_X8_in : Room := { frames := 0, cells := 0, slots := 0, locals := 0 }
set_option maxRecDepth 100000 in
set_option maxHeartbeats 4000000 in
theorem m_X8_in (l : Launch) (D : va_G) (ca : Nat → ClassId) (ws : va_W) (a1 : Int64) (a2 : Int64) (a3 : Int64) (res : Bool) (h0 : f_X8_in a1 a2 a3 = res) (sz : Nat) : Met l yX8_in (ws_ yX8_in cX8_in 6 (some .boolean)) rm_X8_in (PCw D ca (ws) sz [.long a1, .long a2, .long a3]) (QMw D (ws) (ws) sz (some (.int (b2i res)))) 0 0 (AL (ws) sz) := by
  refine met_of (by decide) (Nat.le_of_ble_eq_true rfl) (fun p e s m args below meth c K hr0 X hsz ls hl => ?_)
  have K : MC D ca p s m args meth c cX8_in 6 RX8 := K
  have hx := K.1
  have hb := K.2.1
  have hl : lv_has ls 6 [(0, .long a1), (2, .long a2), (4, .long a3)] := hl
  generalize hQ : MQ below _ args s 0 0 _ = Q
  unfold f_X8_in at h0
  suffices Z : ∀ (H : Heap) (locs : List Loc) (X : RW D (ws) s.heap H locs), W p l e rm_X8_in s m args below meth c H locs 0 0 Q (F0 m 0 ls []) from Z _ _ X
  intro H locs X
  refine lv_lload_n hx hb dX8_in_0 rfl (lv_at hl 0 rfl) ?_
  refine lv_lload_n hx hb dX8_in_1 rfl (lv_at hl 1 rfl) ?_
  refine w_blt (tgt := 17) K dX8_in_2 dX8_in_3 (by decide) (fun c1 => ?_) (fun c1 => ?_)
  · have h0 := if_t c1 h0
    refine lv_iconst (v := 0) hx hb dX8_in_17 (by decide) ?_
    subst h0
    subst hQ
    refine w_int (y := b2i false) (by decide) ?_
    exact w_zret K hr0 X rfl hsz (b2i_nar _) dX8_in_18
  · have h0 := if_f c1 h0
    refine lv_lload_n hx hb dX8_in_6 rfl (lv_at hl 0 rfl) ?_
    refine lv_lload hx hb dX8_in_7 (lv_at hl 2 rfl) ?_
    refine w_bgt (tgt := 17) K dX8_in_9 dX8_in_10 (by decide) (fun c2 => ?_) (fun c2 => ?_)
    · have h0 := if_t c2 h0
      refine lv_iconst (v := 0) hx hb dX8_in_17 (by decide) ?_
      subst h0
      subst hQ
      refine w_int (y := b2i false) (by decide) ?_
      exact w_zret K hr0 X rfl hsz (b2i_nar _) dX8_in_18
    · have h0 := if_f c2 h0
      refine lv_iconst (v := 1) hx hb dX8_in_13 (by decide) ?_
      refine lv_goto (tgt := 18) hx hb dX8_in_14 (by decide) ?_
      subst h0
      subst hQ
      refine w_int (y := b2i true) (by decide) ?_
      exact w_zret K hr0 X rfl hsz (b2i_nar _) dX8_in_18
-- X8_lesser
def f_X8_lesser (a1 : Int32) (a2 : Int32) : Int32 :=
  if a2 ≤ a1 then
    a2
  else
    a1
abbrev rm_X8_lesser : Room := { frames := 0, cells := 0, slots := 0, locals := 0 }
set_option maxRecDepth 100000 in
set_option maxHeartbeats 4000000 in
theorem m_X8_lesser (l : Launch) (D : va_G) (ca : Nat → ClassId) (ws : va_W) (a1 : Int32) (a2 : Int32) (res : Int32) (h0 : f_X8_lesser a1 a2 = res) (sz : Nat) : Met l yX8_lesser (ws_ yX8_lesser cX8_lesser 2 (some .int)) rm_X8_lesser (PCw D ca (ws) sz [.int a1, .int a2]) (QMw D (ws) (ws) sz (some (.int res))) 0 0 (AL (ws) sz) := by
  refine met_of (by decide) (Nat.le_of_ble_eq_true rfl) (fun p e s m args below meth c K hr0 X hsz ls hl => ?_)
  have K : MC D ca p s m args meth c cX8_lesser 2 RX8 := K
  have hx := K.1
  have hb := K.2.1
  have hl : lv_has ls 2 [(0, .int a1), (1, .int a2)] := hl
  generalize hQ : MQ below _ args s 0 0 _ = Q
  unfold f_X8_lesser at h0
  suffices Z : ∀ (H : Heap) (locs : List Loc) (X : RW D (ws) s.heap H locs), W p l e rm_X8_lesser s m args below meth c H locs 0 0 Q (F0 m 0 ls []) from Z _ _ X
  intro H locs X
  refine lv_iload_n hx hb dX8_lesser_0 rfl (lv_at hl 0 rfl) ?_
  refine lv_iload_n hx hb dX8_lesser_1 rfl (lv_at hl 1 rfl) ?_
  refine lv_icmp_ge (tgt := 9) hx hb dX8_lesser_2 (by decide) (fun c1 => ?_) (fun c1 => ?_)
  · have h0 := if_t c1 h0
    refine lv_iload_n hx hb dX8_lesser_9 rfl (lv_at hl 1 rfl) ?_
    subst h0
    subst hQ
    exact w_iret K hr0 X rfl hsz dX8_lesser_10
  · have h0 := if_f c1 h0
    refine lv_iload_n hx hb dX8_lesser_5 rfl (lv_at hl 0 rfl) ?_
    refine lv_goto (tgt := 10) hx hb dX8_lesser_6 (by decide) ?_
    subst h0
    subst hQ
    exact w_iret K hr0 X rfl hsz dX8_lesser_10
-- X8_off0
def f_X8_off0 (a1 : Int32) : Int32 :=
  if 0 ≤ a1 then
    a1
  else
    (-a1)
abbrev rm_X8_off0 : Room := { frames := 0, cells := 0, slots := 0, locals := 0 }
set_option maxRecDepth 100000 in
set_option maxHeartbeats 4000000 in
theorem m_X8_off0 (l : Launch) (D : va_G) (ca : Nat → ClassId) (ws : va_W) (a1 : Int32) (res : Int32) (h0 : f_X8_off0 a1 = res) (sz : Nat) : Met l yX8_off0 (ws_ yX8_off0 cX8_off0 1 (some .int)) rm_X8_off0 (PCw D ca (ws) sz [.int a1]) (QMw D (ws) (ws) sz (some (.int res))) 0 0 (AL (ws) sz) := by
  refine met_of (by decide) (Nat.le_of_ble_eq_true rfl) (fun p e s m args below meth c K hr0 X hsz ls hl => ?_)
  have K : MC D ca p s m args meth c cX8_off0 1 RX8 := K
  have hx := K.1
  have hb := K.2.1
  have hl : lv_has ls 1 [(0, .int a1)] := hl
  generalize hQ : MQ below _ args s 0 0 _ = Q
  unfold f_X8_off0 at h0
  suffices Z : ∀ (H : Heap) (locs : List Loc) (X : RW D (ws) s.heap H locs), W p l e rm_X8_off0 s m args below meth c H locs 0 0 Q (F0 m 0 ls []) from Z _ _ X
  intro H locs X
  refine lv_iload_n hx hb dX8_off0_0 rfl (lv_at hl 0 rfl) ?_
  refine lv_if_ge (tgt := 9) hx hb dX8_off0_1 (by decide) (fun c1 => ?_) (fun c1 => ?_)
  · have h0 := if_t c1 h0
    refine lv_iload_n hx hb dX8_off0_9 rfl (lv_at hl 0 rfl) ?_
    subst h0
    subst hQ
    exact w_iret K hr0 X rfl hsz dX8_off0_10
  · have h0 := if_f c1 h0
    refine lv_iload_n hx hb dX8_off0_4 rfl (lv_at hl 0 rfl) ?_
    refine lv_ineg hx hb dX8_off0_5 ?_
    refine lv_goto (tgt := 10) hx hb dX8_off0_6 (by decide) ?_
    subst h0
    subst hQ
    exact w_iret K hr0 X rfl hsz dX8_off0_10
-- X8_fails
def b_X8_fails_16  (M_16 : RowS) : (Bool × RowS) :=
  if (M_16.1 0 0) = 0 then
    (false, M_16)
  else
    (true, M_16)
def f_X8_fails (M : RowS) (a1 : Int32) (a2 : Int32) : (Bool × RowS) :=
  if a1 = 0 then
    if (M.1 0 0) = 0 then
      lt (si M 0 0 a2) fun Mv4 =>
      b_X8_fails_16 Mv4
    else
      b_X8_fails_16 M
  else
    b_X8_fails_16 M
abbrev rm_X8_fails : Room := { frames := 0, cells := 0, slots := 0, locals := 0 }
set_option maxRecDepth 100000 in
set_option maxHeartbeats 4000000 in
theorem m_X8_fails (l : Launch) (D : va_G) (ca : Nat → ClassId) (am : Nat → Nat) (M : RowS) (xs : va_W) (a1 : Int32) (a2 : Int32) (res : Bool) (M' : RowS) (h0 : f_X8_fails M a1 a2 = (res, M')) (sz : Nat) : Met l yX8_fails (ws_ yX8_fails cX8_fails 3 (some .boolean)) rm_X8_fails (PCw D ca (wM am ca M ++ xs) sz [.ref (am 0), .int a1, .int a2]) (QMw D (wM am ca M ++ xs) (wM am ca (M') ++ xs) sz (some (.int (b2i res)))) 0 0 (AL (wM am ca M ++ xs) sz) := by
  refine met_of (by decide) (Nat.le_of_ble_eq_true rfl) (fun p e s m args below meth c K hr0 X hsz ls hl => ?_)
  have K : MC D ca p s m args meth c cX8_fails 3 RX8 := K
  have hx := K.1
  have hb := K.2.1
  have hl : lv_has ls 3 [(0, .ref (am 0)), (1, .int a1), (2, .int a2)] := hl
  generalize hQ : MQ below _ args s 0 0 _ = Q
  unfold f_X8_fails at h0
  suffices Z : ∀ (H : Heap) (locs : List Loc) (X : RW D (wM am ca M ++ xs) s.heap H locs), W p l e rm_X8_fails s m args below meth c H locs 0 0 Q (F0 m 0 ls []) from Z _ _ X
  intro H locs X
  have J16 : ∀ (M_16 : RowS) (H : Heap) (locs : List Loc) (X : RW D (wM am ca M_16 ++ xs) s.heap H locs) (ls : Array Slot) (hl : lv_has ls 3 [(0, .ref (am 0))]) (h0 : b_X8_fails_16 M_16 = (res, M')), W p l e rm_X8_fails s m args below meth c H locs 0 0 Q (F0 m 16 ls []) := by
    intro M_16 H locs X ls hl h0
    unfold b_X8_fails_16 at h0
    refine lv_aload_n hx hb dX8_fails_16 rfl (lv_at hl 0 rfl) ?_
    refine g_modi K X 0 (by decide) (fun _ _ => rfl) q1399 dX8_fails_17 ?_
    refine lv_if_eq (tgt := 27) hx hb dX8_fails_20 (by decide) (fun c2 => ?_) (fun c2 => ?_)
    · have h0 := if_t c2 h0
      refine lv_iconst (v := 0) hx hb dX8_fails_27 (by decide) ?_
      obtain ⟨q_0, q_1⟩ := Prod.mk.inj h0
      subst q_0
      subst q_1
      subst hQ
      refine w_int (y := b2i false) (by decide) ?_
      exact w_zret K hr0 X wM_fstx hsz (b2i_nar _) dX8_fails_28
    · have h0 := if_f c2 h0
      refine lv_iconst (v := 1) hx hb dX8_fails_23 (by decide) ?_
      refine lv_goto (tgt := 28) hx hb dX8_fails_24 (by decide) ?_
      obtain ⟨q_0, q_1⟩ := Prod.mk.inj h0
      subst q_0
      subst q_1
      subst hQ
      refine w_int (y := b2i true) (by decide) ?_
      exact w_zret K hr0 X wM_fstx hsz (b2i_nar _) dX8_fails_28
  refine lv_iload_n hx hb dX8_fails_0 rfl (lv_at hl 1 rfl) ?_
  refine lv_if_ne (tgt := 16) hx hb dX8_fails_1 (by decide) (fun c1 => ?_) (fun c1 => ?_)
  · have h0 := if_f c1 h0
    exact J16 M H locs X ls (lv_sub hl [0] rfl) h0
  · have h0 := if_t c1 h0
    refine lv_aload_n hx hb dX8_fails_4 rfl (lv_at hl 0 rfl) ?_
    refine g_modi K X 0 (by decide) (fun _ _ => rfl) q1399 dX8_fails_5 ?_
    refine lv_if_ne (tgt := 16) hx hb dX8_fails_8 (by decide) (fun c3 => ?_) (fun c3 => ?_)
    · have h0 := if_f c3 h0
      exact J16 M H locs X ls (lv_sub hl [0] rfl) h0
    · have h0 := if_t c3 h0
      refine lv_aload_n hx hb dX8_fails_11 rfl (lv_at hl 0 rfl) ?_
      refine lv_iload_n hx hb dX8_fails_12 rfl (lv_at hl 2 rfl) ?_
      obtain ⟨Mv4, eMv4, h0⟩ := lt_out h0
      refine p_modi (ty := .int) K X 0 (by decide) (fun _ _ => rfl) (by decide +kernel) ⟨rfl, rfl⟩ eMv4 q1399 dX8_fails_13 (fun H locs X => ?_)
      exact J16 Mv4 H locs X ls (lv_sub hl [0] rfl) h0
-- X8_laysLeg
def f_X8_laysLeg (M : RowS) (a1 : Int32) (a2 : Int32) (a3 : Int32) (a4 : Int32) : Option RowS :=
  if 0 ≤ ((12 + (3 * a1)) + 0).toInt ∧ ((12 + (3 * a1)) + 0).toInt < 102 then
    lt (si M 1 ((12 + (3 * a1)) + 0).toNatClampNeg a2) fun Mv2 =>
    if 0 ≤ ((12 + (3 * a1)) + 1).toInt ∧ ((12 + (3 * a1)) + 1).toInt < 102 then
      lt (si Mv2 1 ((12 + (3 * a1)) + 1).toNatClampNeg a3) fun Mv4 =>
      if 0 ≤ ((12 + (3 * a1)) + 2).toInt ∧ ((12 + (3 * a1)) + 2).toInt < 102 then
        lt (si Mv4 1 ((12 + (3 * a1)) + 2).toNatClampNeg a4) fun Mv6 =>
        some Mv6
      else none
    else none
  else none
abbrev rm_X8_laysLeg : Room := { frames := 0, cells := 0, slots := 0, locals := 0 }
set_option maxRecDepth 100000 in
set_option maxHeartbeats 4000000 in
theorem m_X8_laysLeg (l : Launch) (D : va_G) (ca : Nat → ClassId) (am : Nat → Nat) (M : RowS) (xs : va_W) (a1 : Int32) (a2 : Int32) (a3 : Int32) (a4 : Int32) (M' : RowS) (h0 : f_X8_laysLeg M a1 a2 a3 a4 = some M') (sz : Nat) : Met l yX8_laysLeg (ws_ yX8_laysLeg cX8_laysLeg 5 none) rm_X8_laysLeg (PCw D ca (wM am ca M ++ xs) sz [.ref (am 0), .int a1, .int a2, .int a3, .int a4]) (QMw D (wM am ca M ++ xs) (wM am ca (M') ++ xs) sz none) 0 0 (AL (wM am ca M ++ xs) sz) := by
  refine met_of (by decide) (Nat.le_of_ble_eq_true rfl) (fun p e s m args below meth c K hr0 X hsz ls hl => ?_)
  have K : MC D ca p s m args meth c cX8_laysLeg 5 RX8 := K
  have hx := K.1
  have hb := K.2.1
  have hl : lv_has ls 5 [(0, .ref (am 0)), (1, .int a1), (2, .int a2), (3, .int a3), (4, .int a4)] := hl
  generalize hQ : MQ below _ args s 0 0 _ = Q
  unfold f_X8_laysLeg at h0
  suffices Z : ∀ (H : Heap) (locs : List Loc) (X : RW D (wM am ca M ++ xs) s.heap H locs), W p l e rm_X8_laysLeg s m args below meth c H locs 0 0 Q (F0 m 0 ls []) from Z _ _ X
  intro H locs X
  refine lv_aload_n hx hb dX8_laysLeg_0 rfl (lv_at hl 0 rfl) ?_
  refine g_modr K X 1 (by decide) (fun _ _ => rfl) q1400 dX8_laysLeg_1 ?_
  refine lv_bipush (v := 12) hx hb dX8_laysLeg_4 (by decide) ?_
  refine lv_iconst (v := 3) hx hb dX8_laysLeg_6 (by decide) ?_
  refine lv_iload_n hx hb dX8_laysLeg_7 rfl (lv_at hl 1 rfl) ?_
  refine lv_imul hx hb dX8_laysLeg_8 ?_
  refine lv_iadd hx hb dX8_laysLeg_9 ?_
  refine lv_iconst (v := 0) hx hb dX8_laysLeg_10 (by decide) ?_
  refine lv_iadd hx hb dX8_laysLeg_11 ?_
  refine lv_iload_n hx hb dX8_laysLeg_12 rfl (lv_at hl 2 rfl) ?_
  obtain ⟨c1, h0⟩ := if_o h0
  obtain ⟨Mv2, eMv2, h0⟩ := lt_out h0
  refine s_modi K X 1 1 102 rfl (fun _ => rfl) (inb_vp c1) eMv2 dX8_laysLeg_13 (fun H locs X => ?_)
  refine lv_aload_n hx hb dX8_laysLeg_14 rfl (lv_at hl 0 rfl) ?_
  refine g_modr K X 1 (by decide) (fun _ _ => rfl) q1400 dX8_laysLeg_15 ?_
  refine lv_bipush (v := 12) hx hb dX8_laysLeg_18 (by decide) ?_
  refine lv_iconst (v := 3) hx hb dX8_laysLeg_20 (by decide) ?_
  refine lv_iload_n hx hb dX8_laysLeg_21 rfl (lv_at hl 1 rfl) ?_
  refine lv_imul hx hb dX8_laysLeg_22 ?_
  refine lv_iadd hx hb dX8_laysLeg_23 ?_
  refine lv_iconst (v := 1) hx hb dX8_laysLeg_24 (by decide) ?_
  refine lv_iadd hx hb dX8_laysLeg_25 ?_
  refine lv_iload_n hx hb dX8_laysLeg_26 rfl (lv_at hl 3 rfl) ?_
  obtain ⟨c3, h0⟩ := if_o h0
  obtain ⟨Mv4, eMv4, h0⟩ := lt_out h0
  refine s_modi K X 1 1 102 rfl (fun _ => rfl) (inb_vp c3) eMv4 dX8_laysLeg_27 (fun H locs X => ?_)
  refine lv_aload_n hx hb dX8_laysLeg_28 rfl (lv_at hl 0 rfl) ?_
  refine g_modr K X 1 (by decide) (fun _ _ => rfl) q1400 dX8_laysLeg_29 ?_
  refine lv_bipush (v := 12) hx hb dX8_laysLeg_32 (by decide) ?_
  refine lv_iconst (v := 3) hx hb dX8_laysLeg_34 (by decide) ?_
  refine lv_iload_n hx hb dX8_laysLeg_35 rfl (lv_at hl 1 rfl) ?_
  refine lv_imul hx hb dX8_laysLeg_36 ?_
  refine lv_iadd hx hb dX8_laysLeg_37 ?_
  refine lv_iconst (v := 2) hx hb dX8_laysLeg_38 (by decide) ?_
  refine lv_iadd hx hb dX8_laysLeg_39 ?_
  refine lv_iload hx hb dX8_laysLeg_40 (lv_at hl 4 rfl) ?_
  obtain ⟨c5, h0⟩ := if_o h0
  obtain ⟨Mv6, eMv6, h0⟩ := lt_out h0
  refine s_modi K X 1 1 102 rfl (fun _ => rfl) (inb_vp c5) eMv6 dX8_laysLeg_42 (fun H locs X => ?_)
  have h0 := Option.some.inj h0
  subst h0
  subst hQ
  exact w_vret K hr0 X wM_fstx hsz dX8_laysLeg_43
-- X8_begins
def b_X8_begins_105  (M_105 : RowS) : Option RowS :=
  some M_105
def l_X8_begins_82  (z82_3 : Int32) (Mz_82 : RowS) : Option ((Int32 × RowS) ⊕ RowS) :=
  if 2 ≤ z82_3 then
    some (.inr Mz_82)
  else
    ob (f_X8_laysLeg Mz_82 z82_3 1000 10000 0) fun x9 =>
    lt (x9) fun Mv10 =>
    lt (z82_3 + 1) fun x11 =>
    some (.inl (x11, Mv10))
def b_X8_begins_80 (n : Nat) (M_80 : RowS) : Option RowS :=
  ob (wloop (fun t => l_X8_begins_82 t.1 t.2) n (0, M_80)) (fun t => b_X8_begins_105 t)
def l_X8_begins_58  (z58_3 : Int32) (Mz_58 : RowS) : Option ((Int32 × RowS) ⊕ RowS) :=
  if 8 ≤ z58_3 then
    some (.inr Mz_58)
  else
    if 0 ≤ (4 + z58_3).toInt ∧ (4 + z58_3).toInt < 102 then
      lt (si Mz_58 1 (4 + z58_3).toNatClampNeg 50000) fun Mv13 =>
      lt (z58_3 + 1) fun x14 =>
      some (.inl (x14, Mv13))
    else none
def b_X8_begins_42 (n : Nat) (a1 : Int32) (a2 : Int32) (M_42 : RowS) : Option RowS :=
  if 0 ≤ (0 : Int32).toInt ∧ (0 : Int32).toInt < 102 then
    lt (si M_42 1 (0 : Int32).toNatClampNeg a1) fun Mv4 =>
    if 0 ≤ (1 : Int32).toInt ∧ (1 : Int32).toInt < 102 then
      lt (si Mv4 1 (1 : Int32).toNatClampNeg a2) fun Mv6 =>
      ob (wloop (fun t => l_X8_begins_58 t.1 t.2) n (0, Mv6)) (fun t => b_X8_begins_80 n t)
    else none
  else none
def l_X8_begins_23  (z23_3 : Int32) (Mz_23 : RowS) : Option ((Int32 × RowS) ⊕ RowS) :=
  if 6 ≤ z23_3 then
    some (.inr Mz_23)
  else
    if 0 ≤ z23_3.toInt ∧ z23_3.toInt < 6 then
      lt (sl Mz_23 5 z23_3.toNatClampNeg 0) fun Mv16 =>
      lt (z23_3 + 1) fun x17 =>
      some (.inl (x17, Mv16))
    else none
def b_X8_begins_21 (n : Nat) (a1 : Int32) (a2 : Int32) (M_21 : RowS) : Option RowS :=
  ob (wloop (fun t => l_X8_begins_23 t.1 t.2) n (0, M_21)) (fun t => b_X8_begins_42 n a1 a2 t)
def l_X8_begins_2  (z2_3 : Int32) (Mz_2 : RowS) : Option ((Int32 × RowS) ⊕ RowS) :=
  if 102 ≤ z2_3 then
    some (.inr Mz_2)
  else
    if 0 ≤ z2_3.toInt ∧ z2_3.toInt < 102 then
      lt (si Mz_2 1 z2_3.toNatClampNeg 0) fun Mv19 =>
      lt (z2_3 + 1) fun x20 =>
      some (.inl (x20, Mv19))
    else none
def f_X8_begins (n : Nat) (M : RowS) (a1 : Int32) (a2 : Int32) : Option RowS :=
  ob (wloop (fun t => l_X8_begins_2 t.1 t.2) n (0, M)) (fun t => b_X8_begins_21 n a1 a2 t)
abbrev rm_X8_begins : Room := { frames := 1, cells := 0, slots := 0, locals := 24 }
set_option maxRecDepth 100000 in
set_option maxHeartbeats 4000000 in
theorem m_X8_begins (l : Launch) (D : va_G) (ca : Nat → ClassId) (am : Nat → Nat) (n : Nat) (M : RowS) (xs : va_W) (a1 : Int32) (a2 : Int32) (M' : RowS) (h0 : f_X8_begins n M a1 a2 = some M') (sz : Nat) : Met l yX8_begins (ws_ yX8_begins cX8_begins 4 none) rm_X8_begins (PCw D ca (wM am ca M ++ xs) sz [.ref (am 0), .int a1, .int a2]) (QMw D (wM am ca M ++ xs) (wM am ca (M') ++ xs) sz none) 0 0 (AL (wM am ca M ++ xs) sz) := by
  refine met_of (by decide) (Nat.le_of_ble_eq_true rfl) (fun p e s m args below meth c K hr0 X hsz ls hl => ?_)
  have K : MC D ca p s m args meth c cX8_begins 4 RX8 := K
  have hx := K.1
  have hb := K.2.1
  have hl : lv_has ls 4 [(0, .ref (am 0)), (1, .int a1), (2, .int a2)] := hl
  generalize hQ : MQ below _ args s 0 0 _ = Q
  unfold f_X8_begins at h0
  suffices Z : ∀ (H : Heap) (locs : List Loc) (X : RW D (wM am ca M ++ xs) s.heap H locs), W p l e rm_X8_begins s m args below meth c H locs 0 0 Q (F0 m 0 ls []) from Z _ _ X
  intro H locs X
  have J105 : ∀ (M_105 : RowS) (H : Heap) (locs : List Loc) (X : RW D (wM am ca M_105 ++ xs) s.heap H locs) (ls : Array Slot) (hl : lv_has ls 4 []) (h0 : b_X8_begins_105 M_105 = some M'), W p l e rm_X8_begins s m args below meth c H locs 0 0 Q (F0 m 105 ls []) := by
    intro M_105 H locs X ls hl h0
    unfold b_X8_begins_105 at h0
    have h0 := Option.some.inj h0
    subst h0
    subst hQ
    exact w_vret K hr0 X wM_fstx hsz dX8_begins_105
  have J80 : ∀ (M_80 : RowS) (H : Heap) (locs : List Loc) (X : RW D (wM am ca M_80 ++ xs) s.heap H locs) (ls : Array Slot) (hl : lv_has ls 4 [(0, .ref (am 0))]) (h0 : b_X8_begins_80 n M_80 = some M'), W p l e rm_X8_begins s m args below meth c H locs 0 0 Q (F0 m 80 ls []) := by
    intro M_80 H locs X ls hl h0
    unfold b_X8_begins_80 at h0
    refine lv_iconst (v := 0) hx hb dX8_begins_80 (by decide) ?_
    refine lv_istore_n (lv' := [(3, .int 0), (0, .ref (am 0))]) hx hb dX8_begins_81 rfl hl (by decide) rfl (fun ls hl => ?_)
    obtain ⟨e_1, he1, h0⟩ := ob_out h0
    have K82 : ∀ (k : Nat) (z82_3 : Int32) (Mz_82 : RowS) (H : Heap) (locs : List Loc) (X : RW D (wM am ca Mz_82 ++ xs) s.heap H locs) (ls : Array Slot) (hl : lv_has ls 4 [(0, .ref (am 0)), (3, .int z82_3)]) (hw : wloop (fun t => l_X8_begins_82 t.1 t.2) k (z82_3, Mz_82) = some e_1), W p l e rm_X8_begins s m args below meth c H locs 0 0 Q (F0 m 82 ls []) := by
      intro k
      induction k with
      | zero => intro z82_3 Mz_82 H locs X ls hl hw; exact (wloop_0 hw).elim
      | succ k ih1 =>
        intro z82_3 Mz_82 H locs X ls hl hw
        obtain ⟨x_1, h1, hx1⟩ := wloop_out hw
        have h1 : l_X8_begins_82 z82_3 Mz_82 = some x_1 := h1
        unfold l_X8_begins_82 at h1
        refine lv_iload_n hx hb dX8_begins_82 rfl (lv_at hl 1 rfl) ?_
        refine lv_iconst (v := 2) hx hb dX8_begins_83 (by decide) ?_
        refine lv_icmp_ge (tgt := 105) hx hb dX8_begins_84 (by decide) (fun c8 => ?_) (fun c8 => ?_)
        · have h1 := if_t c8 h1
          have q1 := wl_r h1 hx1
          exact J105 Mz_82 H locs X ls (lv_sub hl [] rfl) (by rw [q1] at h0; exact h0)
        · have h1 := if_f c8 h1
          refine lv_aload_n hx hb dX8_begins_87 rfl (lv_at hl 0 rfl) ?_
          refine lv_iload_n hx hb dX8_begins_88 rfl (lv_at hl 1 rfl) ?_
          refine lv_sipush (v := 1000) hx hb dX8_begins_89 (by decide) ?_
          refine lv_sipush (v := 10000) hx hb dX8_begins_92 (by decide) ?_
          refine lv_iconst (v := 0) hx hb dX8_begins_95 (by decide) ?_
          obtain ⟨x9, ex9, h1⟩ := ob_out h1
          obtain ⟨Mv10, eMv10, h1⟩ := lt_out h1
          have kx9 := m_X8_laysLeg l D ca am Mz_82 xs z82_3 1000 10000 0 x9 ex9 H.size
          rw [← eMv10] at kx9
          refine w_callV0 K X wM_fstx kx9 hl.1 4 q1395 q1397 q20 q97 q1398 hv_X8_laysLeg ⟨⟨Nat.le_of_ble_eq_true rfl, Nat.le_of_ble_eq_true rfl⟩, rfl, rfl⟩ pl_modo rfl rfl rfl rfl (Nat.le_of_ble_eq_true rfl) dX8_begins_96 ⟨Nat.le_of_ble_eq_true rfl, Nat.le_of_ble_eq_true rfl⟩ rfl (fun H locs X => ?_)
          obtain ⟨x11, ex11, h1⟩ := lt_out h1
          refine lv_iinc (v := x11) (lv' := [(3, .int x11), (0, .ref (am 0))]) hx hb dX8_begins_99 hl (k := 1) rfl (by rw [ex11]; rfl) (by decide) rfl (fun ls hl => ?_)
          refine lv_goto (tgt := 82) hx hb dX8_begins_102 (by decide) ?_
          exact ih1 x11 Mv10 H locs X ls (lv_sub hl [1, 0] rfl) (wl_l h1 hx1)
    exact K82 n 0 M_80 H locs X ls (lv_sub hl [1, 0] rfl) he1
  have J42 : ∀ (M_42 : RowS) (H : Heap) (locs : List Loc) (X : RW D (wM am ca M_42 ++ xs) s.heap H locs) (ls : Array Slot) (hl : lv_has ls 4 [(0, .ref (am 0)), (1, .int a1), (2, .int a2)]) (h0 : b_X8_begins_42 n a1 a2 M_42 = some M'), W p l e rm_X8_begins s m args below meth c H locs 0 0 Q (F0 m 42 ls []) := by
    intro M_42 H locs X ls hl h0
    unfold b_X8_begins_42 at h0
    refine lv_aload_n hx hb dX8_begins_42 rfl (lv_at hl 0 rfl) ?_
    refine g_modr K X 1 (by decide) (fun _ _ => rfl) q1400 dX8_begins_43 ?_
    refine lv_iconst (v := 0) hx hb dX8_begins_46 (by decide) ?_
    refine lv_iload_n hx hb dX8_begins_47 rfl (lv_at hl 1 rfl) ?_
    obtain ⟨c3, h0⟩ := if_o h0
    obtain ⟨Mv4, eMv4, h0⟩ := lt_out h0
    refine s_modi K X 1 1 102 rfl (fun _ => rfl) (inb_vp c3) eMv4 dX8_begins_48 (fun H locs X => ?_)
    refine lv_aload_n hx hb dX8_begins_49 rfl (lv_at hl 0 rfl) ?_
    refine g_modr K X 1 (by decide) (fun _ _ => rfl) q1400 dX8_begins_50 ?_
    refine lv_iconst (v := 1) hx hb dX8_begins_53 (by decide) ?_
    refine lv_iload_n hx hb dX8_begins_54 rfl (lv_at hl 2 rfl) ?_
    obtain ⟨c5, h0⟩ := if_o h0
    obtain ⟨Mv6, eMv6, h0⟩ := lt_out h0
    refine s_modi K X 1 1 102 rfl (fun _ => rfl) (inb_vp c5) eMv6 dX8_begins_55 (fun H locs X => ?_)
    refine lv_iconst (v := 0) hx hb dX8_begins_56 (by decide) ?_
    refine lv_istore_n (lv' := [(3, .int 0), (0, .ref (am 0)), (1, .int a1), (2, .int a2)]) hx hb dX8_begins_57 rfl hl (by decide) rfl (fun ls hl => ?_)
    obtain ⟨e_1, he1, h0⟩ := ob_out h0
    have K58 : ∀ (k : Nat) (z58_3 : Int32) (Mz_58 : RowS) (H : Heap) (locs : List Loc) (X : RW D (wM am ca Mz_58 ++ xs) s.heap H locs) (ls : Array Slot) (hl : lv_has ls 4 [(0, .ref (am 0)), (3, .int z58_3)]) (hw : wloop (fun t => l_X8_begins_58 t.1 t.2) k (z58_3, Mz_58) = some e_1), W p l e rm_X8_begins s m args below meth c H locs 0 0 Q (F0 m 58 ls []) := by
      intro k
      induction k with
      | zero => intro z58_3 Mz_58 H locs X ls hl hw; exact (wloop_0 hw).elim
      | succ k ih1 =>
        intro z58_3 Mz_58 H locs X ls hl hw
        obtain ⟨x_1, h1, hx1⟩ := wloop_out hw
        have h1 : l_X8_begins_58 z58_3 Mz_58 = some x_1 := h1
        unfold l_X8_begins_58 at h1
        refine lv_iload_n hx hb dX8_begins_58 rfl (lv_at hl 1 rfl) ?_
        refine lv_bipush (v := 8) hx hb dX8_begins_59 (by decide) ?_
        refine lv_icmp_ge (tgt := 80) hx hb dX8_begins_61 (by decide) (fun c7 => ?_) (fun c7 => ?_)
        · have h1 := if_t c7 h1
          have q1 := wl_r h1 hx1
          exact J80 Mz_58 H locs X ls (lv_sub hl [0] rfl) (by rw [q1] at h0; exact h0)
        · have h1 := if_f c7 h1
          refine lv_aload_n hx hb dX8_begins_64 rfl (lv_at hl 0 rfl) ?_
          refine g_modr K X 1 (by decide) (fun _ _ => rfl) q1400 dX8_begins_65 ?_
          refine lv_iconst (v := 4) hx hb dX8_begins_68 (by decide) ?_
          refine lv_iload_n hx hb dX8_begins_69 rfl (lv_at hl 1 rfl) ?_
          refine lv_iadd hx hb dX8_begins_70 ?_
          refine lv_ldc hx hb K.2.2.2.1 (K.2.2.2.2.1 _ q1390) dX8_begins_71 ?_
          obtain ⟨c12, h1⟩ := if_o h1
          obtain ⟨Mv13, eMv13, h1⟩ := lt_out h1
          refine s_modi K X 1 1 102 rfl (fun _ => rfl) (inb_vp c12) eMv13 dX8_begins_73 (fun H locs X => ?_)
          obtain ⟨x14, ex14, h1⟩ := lt_out h1
          refine lv_iinc (v := x14) (lv' := [(3, .int x14), (0, .ref (am 0))]) hx hb dX8_begins_74 hl (k := 1) rfl (by rw [ex14]; rfl) (by decide) rfl (fun ls hl => ?_)
          refine lv_goto (tgt := 58) hx hb dX8_begins_77 (by decide) ?_
          exact ih1 x14 Mv13 H locs X ls (lv_sub hl [1, 0] rfl) (wl_l h1 hx1)
    exact K58 n 0 Mv6 H locs X ls (lv_sub hl [1, 0] rfl) he1
  have J21 : ∀ (M_21 : RowS) (H : Heap) (locs : List Loc) (X : RW D (wM am ca M_21 ++ xs) s.heap H locs) (ls : Array Slot) (hl : lv_has ls 4 [(0, .ref (am 0)), (1, .int a1), (2, .int a2)]) (h0 : b_X8_begins_21 n a1 a2 M_21 = some M'), W p l e rm_X8_begins s m args below meth c H locs 0 0 Q (F0 m 21 ls []) := by
    intro M_21 H locs X ls hl h0
    unfold b_X8_begins_21 at h0
    refine lv_iconst (v := 0) hx hb dX8_begins_21 (by decide) ?_
    refine lv_istore_n (lv' := [(3, .int 0), (0, .ref (am 0)), (1, .int a1), (2, .int a2)]) hx hb dX8_begins_22 rfl hl (by decide) rfl (fun ls hl => ?_)
    obtain ⟨e_1, he1, h0⟩ := ob_out h0
    have K23 : ∀ (k : Nat) (z23_3 : Int32) (Mz_23 : RowS) (H : Heap) (locs : List Loc) (X : RW D (wM am ca Mz_23 ++ xs) s.heap H locs) (ls : Array Slot) (hl : lv_has ls 4 [(0, .ref (am 0)), (1, .int a1), (2, .int a2), (3, .int z23_3)]) (hw : wloop (fun t => l_X8_begins_23 t.1 t.2) k (z23_3, Mz_23) = some e_1), W p l e rm_X8_begins s m args below meth c H locs 0 0 Q (F0 m 23 ls []) := by
      intro k
      induction k with
      | zero => intro z23_3 Mz_23 H locs X ls hl hw; exact (wloop_0 hw).elim
      | succ k ih1 =>
        intro z23_3 Mz_23 H locs X ls hl hw
        obtain ⟨x_1, h1, hx1⟩ := wloop_out hw
        have h1 : l_X8_begins_23 z23_3 Mz_23 = some x_1 := h1
        unfold l_X8_begins_23 at h1
        refine lv_iload_n hx hb dX8_begins_23 rfl (lv_at hl 3 rfl) ?_
        refine lv_bipush (v := 6) hx hb dX8_begins_24 (by decide) ?_
        refine lv_icmp_ge (tgt := 42) hx hb dX8_begins_26 (by decide) (fun c2 => ?_) (fun c2 => ?_)
        · have h1 := if_t c2 h1
          have q1 := wl_r h1 hx1
          exact J42 Mz_23 H locs X ls (lv_sub hl [0, 1, 2] rfl) (by rw [q1] at h0; exact h0)
        · have h1 := if_f c2 h1
          refine lv_aload_n hx hb dX8_begins_29 rfl (lv_at hl 0 rfl) ?_
          refine g_modr K X 5 (by decide) (fun _ _ => rfl) q1404 dX8_begins_30 ?_
          refine lv_iload_n hx hb dX8_begins_33 rfl (lv_at hl 3 rfl) ?_
          refine lv_lconst (v := 0) hx hb dX8_begins_34 (by decide) ?_
          obtain ⟨c15, h1⟩ := if_o h1
          obtain ⟨Mv16, eMv16, h1⟩ := lt_out h1
          refine s_modl K X 5 5 6 rfl (fun _ => rfl) (inb_vp c15) eMv16 dX8_begins_35 (fun H locs X => ?_)
          obtain ⟨x17, ex17, h1⟩ := lt_out h1
          refine lv_iinc (v := x17) (lv' := [(3, .int x17), (0, .ref (am 0)), (1, .int a1), (2, .int a2)]) hx hb dX8_begins_36 hl (k := 3) rfl (by rw [ex17]; rfl) (by decide) rfl (fun ls hl => ?_)
          refine lv_goto (tgt := 23) hx hb dX8_begins_39 (by decide) ?_
          exact ih1 x17 Mv16 H locs X ls (lv_sub hl [1, 2, 3, 0] rfl) (wl_l h1 hx1)
    exact K23 n 0 M_21 H locs X ls (lv_sub hl [1, 2, 3, 0] rfl) he1
  refine lv_iconst (v := 0) hx hb dX8_begins_0 (by decide) ?_
  refine lv_istore_n (lv' := [(3, .int 0), (0, .ref (am 0)), (1, .int a1), (2, .int a2)]) hx hb dX8_begins_1 rfl hl (by decide) rfl (fun ls hl => ?_)
  obtain ⟨e_1, he1, h0⟩ := ob_out h0
  have K2 : ∀ (k : Nat) (z2_3 : Int32) (Mz_2 : RowS) (H : Heap) (locs : List Loc) (X : RW D (wM am ca Mz_2 ++ xs) s.heap H locs) (ls : Array Slot) (hl : lv_has ls 4 [(0, .ref (am 0)), (1, .int a1), (2, .int a2), (3, .int z2_3)]) (hw : wloop (fun t => l_X8_begins_2 t.1 t.2) k (z2_3, Mz_2) = some e_1), W p l e rm_X8_begins s m args below meth c H locs 0 0 Q (F0 m 2 ls []) := by
    intro k
    induction k with
    | zero => intro z2_3 Mz_2 H locs X ls hl hw; exact (wloop_0 hw).elim
    | succ k ih1 =>
      intro z2_3 Mz_2 H locs X ls hl hw
      obtain ⟨x_1, h1, hx1⟩ := wloop_out hw
      have h1 : l_X8_begins_2 z2_3 Mz_2 = some x_1 := h1
      unfold l_X8_begins_2 at h1
      refine lv_iload_n hx hb dX8_begins_2 rfl (lv_at hl 3 rfl) ?_
      refine lv_bipush (v := 102) hx hb dX8_begins_3 (by decide) ?_
      refine lv_icmp_ge (tgt := 21) hx hb dX8_begins_5 (by decide) (fun c1 => ?_) (fun c1 => ?_)
      · have h1 := if_t c1 h1
        have q1 := wl_r h1 hx1
        exact J21 Mz_2 H locs X ls (lv_sub hl [0, 1, 2] rfl) (by rw [q1] at h0; exact h0)
      · have h1 := if_f c1 h1
        refine lv_aload_n hx hb dX8_begins_8 rfl (lv_at hl 0 rfl) ?_
        refine g_modr K X 1 (by decide) (fun _ _ => rfl) q1400 dX8_begins_9 ?_
        refine lv_iload_n hx hb dX8_begins_12 rfl (lv_at hl 3 rfl) ?_
        refine lv_iconst (v := 0) hx hb dX8_begins_13 (by decide) ?_
        obtain ⟨c18, h1⟩ := if_o h1
        obtain ⟨Mv19, eMv19, h1⟩ := lt_out h1
        refine s_modi K X 1 1 102 rfl (fun _ => rfl) (inb_vp c18) eMv19 dX8_begins_14 (fun H locs X => ?_)
        obtain ⟨x20, ex20, h1⟩ := lt_out h1
        refine lv_iinc (v := x20) (lv' := [(3, .int x20), (0, .ref (am 0)), (1, .int a1), (2, .int a2)]) hx hb dX8_begins_15 hl (k := 3) rfl (by rw [ex20]; rfl) (by decide) rfl (fun ls hl => ?_)
        refine lv_goto (tgt := 2) hx hb dX8_begins_18 (by decide) ?_
        exact ih1 x20 Mv19 H locs X ls (lv_sub hl [1, 2, 3, 0] rfl) (wl_l h1 hx1)
  exact K2 n 0 M H locs X ls (lv_sub hl [1, 2, 3, 0] rfl) he1
-- X8_copies
def b_X8_copies_28  (M_28 : RowS) : Option RowS :=
  some M_28
def l_X8_copies_3 (a1 : Nat) (za1 : Nat) (a2 : Int32) (a3 : Nat) (za3 : Nat) (a4 : Int32) (z3_4 : Int32) (Mz_3 : RowS) : Option ((Int32 × RowS) ⊕ RowS) :=
  if 102 ≤ z3_4 then
    some (.inr Mz_3)
  else
    if 0 ≤ (a2 + z3_4).toInt ∧ (a2 + z3_4).toInt < (za1 : Int) then
      if 0 ≤ (a4 + z3_4).toInt ∧ (a4 + z3_4).toInt < (za3 : Int) then
        lt (si Mz_3 a3 (a4 + z3_4).toNatClampNeg (Mz_3.1 a1 (a2 + z3_4).toNatClampNeg)) fun Mv4 =>
        lt (z3_4 + 1) fun x5 =>
        some (.inl (x5, Mv4))
      else none
    else none
def f_X8_copies (n : Nat) (M : RowS) (a1 : Nat) (za1 : Nat) (a2 : Int32) (a3 : Nat) (za3 : Nat) (a4 : Int32) : Option RowS :=
  ob (wloop (fun t => l_X8_copies_3 a1 za1 a2 a3 za3 a4 t.1 t.2) n (0, M)) (fun t => b_X8_copies_28 t)
abbrev rm_X8_copies : Room := { frames := 0, cells := 0, slots := 0, locals := 0 }
set_option maxRecDepth 100000 in
set_option maxHeartbeats 4000000 in
theorem m_X8_copies (l : Launch) (D : va_G) (ca : Nat → ClassId) (am : Nat → Nat) (n : Nat) (M : RowS) (xs : va_W) (a1 za1 qa1 : Nat) (ha1 : mks[qa1]? = some a1 ∧ ∀ M : RowS, modCell am ca M a1 = .inl (ca 1, za1, .inl (M.1 a1))) (a2 : Int32) (a3 za3 qa3 : Nat) (ha3 : mks[qa3]? = some a3 ∧ ∀ M : RowS, modCell am ca M a3 = .inl (ca 1, za3, .inl (M.1 a3))) (a4 : Int32) (M' : RowS) (h0 : f_X8_copies n M a1 za1 a2 a3 za3 a4 = some M') (sz : Nat) : Met l yX8_copies (ws_ yX8_copies cX8_copies 5 none) rm_X8_copies (PCw D ca (wM am ca M ++ xs) sz [.ref (am a1), .int a2, .ref (am a3), .int a4]) (QMw D (wM am ca M ++ xs) (wM am ca (M') ++ xs) sz none) 0 0 (AL (wM am ca M ++ xs) sz) := by
  refine met_of (by decide) (Nat.le_of_ble_eq_true rfl) (fun p e s m args below meth c K hr0 X hsz ls hl => ?_)
  have K : MC D ca p s m args meth c cX8_copies 5 RX8 := K
  have hx := K.1
  have hb := K.2.1
  have hl : lv_has ls 5 [(0, .ref (am a1)), (1, .int a2), (2, .ref (am a3)), (3, .int a4)] := hl
  generalize hQ : MQ below _ args s 0 0 _ = Q
  unfold f_X8_copies at h0
  suffices Z : ∀ (H : Heap) (locs : List Loc) (X : RW D (wM am ca M ++ xs) s.heap H locs), W p l e rm_X8_copies s m args below meth c H locs 0 0 Q (F0 m 0 ls []) from Z _ _ X
  intro H locs X
  have J28 : ∀ (M_28 : RowS) (H : Heap) (locs : List Loc) (X : RW D (wM am ca M_28 ++ xs) s.heap H locs) (ls : Array Slot) (hl : lv_has ls 5 []) (h0 : b_X8_copies_28 M_28 = some M'), W p l e rm_X8_copies s m args below meth c H locs 0 0 Q (F0 m 28 ls []) := by
    intro M_28 H locs X ls hl h0
    unfold b_X8_copies_28 at h0
    have h0 := Option.some.inj h0
    subst h0
    subst hQ
    exact w_vret K hr0 X wM_fstx hsz dX8_copies_28
  refine lv_iconst (v := 0) hx hb dX8_copies_0 (by decide) ?_
  refine lv_istore (lv' := [(4, .int 0), (0, .ref (am a1)), (1, .int a2), (2, .ref (am a3)), (3, .int a4)]) hx hb dX8_copies_1 hl (by decide) rfl (fun ls hl => ?_)
  obtain ⟨e_1, he1, h0⟩ := ob_out h0
  have K3 : ∀ (k : Nat) (z3_4 : Int32) (Mz_3 : RowS) (H : Heap) (locs : List Loc) (X : RW D (wM am ca Mz_3 ++ xs) s.heap H locs) (ls : Array Slot) (hl : lv_has ls 5 [(0, .ref (am a1)), (1, .int a2), (2, .ref (am a3)), (3, .int a4), (4, .int z3_4)]) (hw : wloop (fun t => l_X8_copies_3 a1 za1 a2 a3 za3 a4 t.1 t.2) k (z3_4, Mz_3) = some e_1), W p l e rm_X8_copies s m args below meth c H locs 0 0 Q (F0 m 3 ls []) := by
    intro k
    induction k with
    | zero => intro z3_4 Mz_3 H locs X ls hl hw; exact (wloop_0 hw).elim
    | succ k ih1 =>
      intro z3_4 Mz_3 H locs X ls hl hw
      obtain ⟨x_1, h1, hx1⟩ := wloop_out hw
      have h1 : l_X8_copies_3 a1 za1 a2 a3 za3 a4 z3_4 Mz_3 = some x_1 := h1
      unfold l_X8_copies_3 at h1
      refine lv_iload hx hb dX8_copies_3 (lv_at hl 4 rfl) ?_
      refine lv_bipush (v := 102) hx hb dX8_copies_5 (by decide) ?_
      refine lv_icmp_ge (tgt := 28) hx hb dX8_copies_7 (by decide) (fun c1 => ?_) (fun c1 => ?_)
      · have h1 := if_t c1 h1
        have q1 := wl_r h1 hx1
        exact J28 Mz_3 H locs X ls (lv_sub hl [] rfl) (by rw [q1] at h0; exact h0)
      · have h1 := if_f c1 h1
        refine lv_aload_n hx hb dX8_copies_10 rfl (lv_at hl 2 rfl) ?_
        refine lv_iload_n hx hb dX8_copies_11 rfl (lv_at hl 3 rfl) ?_
        refine lv_iload hx hb dX8_copies_12 (lv_at hl 4 rfl) ?_
        refine lv_iadd hx hb dX8_copies_14 ?_
        refine lv_aload_n hx hb dX8_copies_15 rfl (lv_at hl 0 rfl) ?_
        refine lv_iload_n hx hb dX8_copies_16 rfl (lv_at hl 1 rfl) ?_
        refine lv_iload hx hb dX8_copies_17 (lv_at hl 4 rfl) ?_
        refine lv_iadd hx hb dX8_copies_19 ?_
        obtain ⟨c2, h1⟩ := if_o h1
        refine a_modi K X a1 qa1 za1 ha1.1 (ha1.2 _) (inb_vp c2) dX8_copies_20 ?_
        obtain ⟨c3, h1⟩ := if_o h1
        obtain ⟨Mv4, eMv4, h1⟩ := lt_out h1
        refine s_modi K X a3 qa3 za3 ha3.1 ha3.2 (inb_vp c3) eMv4 dX8_copies_21 (fun H locs X => ?_)
        obtain ⟨x5, ex5, h1⟩ := lt_out h1
        refine lv_iinc (v := x5) (lv' := [(4, .int x5), (0, .ref (am a1)), (1, .int a2), (2, .ref (am a3)), (3, .int a4)]) hx hb dX8_copies_22 hl (k := 4) rfl (by rw [ex5]; rfl) (by decide) rfl (fun ls hl => ?_)
        refine lv_goto (tgt := 3) hx hb dX8_copies_25 (by decide) ?_
        exact ih1 x5 Mv4 H locs X ls (lv_sub hl [1, 2, 3, 4, 0] rfl) (wl_l h1 hx1)
  exact K3 n 0 M H locs X ls (lv_sub hl [1, 2, 3, 4, 0] rfl) he1
-- X8_copiesLongs
def b_X8_copiesLongs_28  (M_28 : RowS) : Option RowS :=
  some M_28
def l_X8_copiesLongs_3 (a1 : Nat) (za1 : Nat) (a2 : Int32) (a3 : Nat) (za3 : Nat) (a4 : Int32) (z3_4 : Int32) (Mz_3 : RowS) : Option ((Int32 × RowS) ⊕ RowS) :=
  if 6 ≤ z3_4 then
    some (.inr Mz_3)
  else
    if 0 ≤ (a2 + z3_4).toInt ∧ (a2 + z3_4).toInt < (za1 : Int) then
      if 0 ≤ (a4 + z3_4).toInt ∧ (a4 + z3_4).toInt < (za3 : Int) then
        lt (sl Mz_3 a3 (a4 + z3_4).toNatClampNeg (Mz_3.2 a1 (a2 + z3_4).toNatClampNeg)) fun Mv4 =>
        lt (z3_4 + 1) fun x5 =>
        some (.inl (x5, Mv4))
      else none
    else none
def f_X8_copiesLongs (n : Nat) (M : RowS) (a1 : Nat) (za1 : Nat) (a2 : Int32) (a3 : Nat) (za3 : Nat) (a4 : Int32) : Option RowS :=
  ob (wloop (fun t => l_X8_copiesLongs_3 a1 za1 a2 a3 za3 a4 t.1 t.2) n (0, M)) (fun t => b_X8_copiesLongs_28 t)
abbrev rm_X8_copiesLongs : Room := { frames := 0, cells := 0, slots := 0, locals := 0 }
set_option maxRecDepth 100000 in
set_option maxHeartbeats 4000000 in
theorem m_X8_copiesLongs (l : Launch) (D : va_G) (ca : Nat → ClassId) (am : Nat → Nat) (n : Nat) (M : RowS) (xs : va_W) (a1 za1 qa1 : Nat) (ha1 : mks[qa1]? = some a1 ∧ ∀ M : RowS, modCell am ca M a1 = .inl (ca 2, za1, .inr (.inl (M.2 a1)))) (a2 : Int32) (a3 za3 qa3 : Nat) (ha3 : mks[qa3]? = some a3 ∧ ∀ M : RowS, modCell am ca M a3 = .inl (ca 2, za3, .inr (.inl (M.2 a3)))) (a4 : Int32) (M' : RowS) (h0 : f_X8_copiesLongs n M a1 za1 a2 a3 za3 a4 = some M') (sz : Nat) : Met l yX8_copiesLongs (ws_ yX8_copiesLongs cX8_copiesLongs 5 none) rm_X8_copiesLongs (PCw D ca (wM am ca M ++ xs) sz [.ref (am a1), .int a2, .ref (am a3), .int a4]) (QMw D (wM am ca M ++ xs) (wM am ca (M') ++ xs) sz none) 0 0 (AL (wM am ca M ++ xs) sz) := by
  refine met_of (by decide) (Nat.le_of_ble_eq_true rfl) (fun p e s m args below meth c K hr0 X hsz ls hl => ?_)
  have K : MC D ca p s m args meth c cX8_copiesLongs 5 RX8 := K
  have hx := K.1
  have hb := K.2.1
  have hl : lv_has ls 5 [(0, .ref (am a1)), (1, .int a2), (2, .ref (am a3)), (3, .int a4)] := hl
  generalize hQ : MQ below _ args s 0 0 _ = Q
  unfold f_X8_copiesLongs at h0
  suffices Z : ∀ (H : Heap) (locs : List Loc) (X : RW D (wM am ca M ++ xs) s.heap H locs), W p l e rm_X8_copiesLongs s m args below meth c H locs 0 0 Q (F0 m 0 ls []) from Z _ _ X
  intro H locs X
  have J28 : ∀ (M_28 : RowS) (H : Heap) (locs : List Loc) (X : RW D (wM am ca M_28 ++ xs) s.heap H locs) (ls : Array Slot) (hl : lv_has ls 5 []) (h0 : b_X8_copiesLongs_28 M_28 = some M'), W p l e rm_X8_copiesLongs s m args below meth c H locs 0 0 Q (F0 m 28 ls []) := by
    intro M_28 H locs X ls hl h0
    unfold b_X8_copiesLongs_28 at h0
    have h0 := Option.some.inj h0
    subst h0
    subst hQ
    exact w_vret K hr0 X wM_fstx hsz dX8_copiesLongs_28
  refine lv_iconst (v := 0) hx hb dX8_copiesLongs_0 (by decide) ?_
  refine lv_istore (lv' := [(4, .int 0), (0, .ref (am a1)), (1, .int a2), (2, .ref (am a3)), (3, .int a4)]) hx hb dX8_copiesLongs_1 hl (by decide) rfl (fun ls hl => ?_)
  obtain ⟨e_1, he1, h0⟩ := ob_out h0
  have K3 : ∀ (k : Nat) (z3_4 : Int32) (Mz_3 : RowS) (H : Heap) (locs : List Loc) (X : RW D (wM am ca Mz_3 ++ xs) s.heap H locs) (ls : Array Slot) (hl : lv_has ls 5 [(0, .ref (am a1)), (1, .int a2), (2, .ref (am a3)), (3, .int a4), (4, .int z3_4)]) (hw : wloop (fun t => l_X8_copiesLongs_3 a1 za1 a2 a3 za3 a4 t.1 t.2) k (z3_4, Mz_3) = some e_1), W p l e rm_X8_copiesLongs s m args below meth c H locs 0 0 Q (F0 m 3 ls []) := by
    intro k
    induction k with
    | zero => intro z3_4 Mz_3 H locs X ls hl hw; exact (wloop_0 hw).elim
    | succ k ih1 =>
      intro z3_4 Mz_3 H locs X ls hl hw
      obtain ⟨x_1, h1, hx1⟩ := wloop_out hw
      have h1 : l_X8_copiesLongs_3 a1 za1 a2 a3 za3 a4 z3_4 Mz_3 = some x_1 := h1
      unfold l_X8_copiesLongs_3 at h1
      refine lv_iload hx hb dX8_copiesLongs_3 (lv_at hl 4 rfl) ?_
      refine lv_bipush (v := 6) hx hb dX8_copiesLongs_5 (by decide) ?_
      refine lv_icmp_ge (tgt := 28) hx hb dX8_copiesLongs_7 (by decide) (fun c1 => ?_) (fun c1 => ?_)
      · have h1 := if_t c1 h1
        have q1 := wl_r h1 hx1
        exact J28 Mz_3 H locs X ls (lv_sub hl [] rfl) (by rw [q1] at h0; exact h0)
      · have h1 := if_f c1 h1
        refine lv_aload_n hx hb dX8_copiesLongs_10 rfl (lv_at hl 2 rfl) ?_
        refine lv_iload_n hx hb dX8_copiesLongs_11 rfl (lv_at hl 3 rfl) ?_
        refine lv_iload hx hb dX8_copiesLongs_12 (lv_at hl 4 rfl) ?_
        refine lv_iadd hx hb dX8_copiesLongs_14 ?_
        refine lv_aload_n hx hb dX8_copiesLongs_15 rfl (lv_at hl 0 rfl) ?_
        refine lv_iload_n hx hb dX8_copiesLongs_16 rfl (lv_at hl 1 rfl) ?_
        refine lv_iload hx hb dX8_copiesLongs_17 (lv_at hl 4 rfl) ?_
        refine lv_iadd hx hb dX8_copiesLongs_19 ?_
        obtain ⟨c2, h1⟩ := if_o h1
        refine a_modl K X a1 qa1 za1 ha1.1 (ha1.2 _) (inb_vp c2) dX8_copiesLongs_20 ?_
        obtain ⟨c3, h1⟩ := if_o h1
        obtain ⟨Mv4, eMv4, h1⟩ := lt_out h1
        refine s_modl K X a3 qa3 za3 ha3.1 ha3.2 (inb_vp c3) eMv4 dX8_copiesLongs_21 (fun H locs X => ?_)
        obtain ⟨x5, ex5, h1⟩ := lt_out h1
        refine lv_iinc (v := x5) (lv' := [(4, .int x5), (0, .ref (am a1)), (1, .int a2), (2, .ref (am a3)), (3, .int a4)]) hx hb dX8_copiesLongs_22 hl (k := 4) rfl (by rw [ex5]; rfl) (by decide) rfl (fun ls hl => ?_)
        refine lv_goto (tgt := 3) hx hb dX8_copiesLongs_25 (by decide) ?_
        exact ih1 x5 Mv4 H locs X ls (lv_sub hl [1, 2, 3, 4, 0] rfl) (wl_l h1 hx1)
  exact K3 n 0 M H locs X ls (lv_sub hl [1, 2, 3, 4, 0] rfl) he1
-- X8_laysAside
def f_X8_laysAside (n : Nat) (M : RowS) : Option RowS :=
  ob (f_X8_copies n M 1 102 0 3 102 0) fun x1 =>
  lt (x1) fun Mv2 =>
  ob (f_X8_copiesLongs n Mv2 5 6 0 7 6 0) fun x3 =>
  lt (x3) fun Mv4 =>
  some Mv4
abbrev rm_X8_laysAside : Room := { frames := 1, cells := 0, slots := 0, locals := 24 }
set_option maxRecDepth 100000 in
set_option maxHeartbeats 4000000 in
theorem m_X8_laysAside (l : Launch) (D : va_G) (ca : Nat → ClassId) (am : Nat → Nat) (n : Nat) (M : RowS) (xs : va_W) (M' : RowS) (h0 : f_X8_laysAside n M = some M') (sz : Nat) : Met l yX8_laysAside (ws_ yX8_laysAside cX8_laysAside 1 none) rm_X8_laysAside (PCw D ca (wM am ca M ++ xs) sz [.ref (am 0)]) (QMw D (wM am ca M ++ xs) (wM am ca (M') ++ xs) sz none) 0 0 (AL (wM am ca M ++ xs) sz) := by
  refine met_of (by decide) (Nat.le_of_ble_eq_true rfl) (fun p e s m args below meth c K hr0 X hsz ls hl => ?_)
  have K : MC D ca p s m args meth c cX8_laysAside 1 RX8 := K
  have hx := K.1
  have hb := K.2.1
  have hl : lv_has ls 1 [(0, .ref (am 0))] := hl
  generalize hQ : MQ below _ args s 0 0 _ = Q
  unfold f_X8_laysAside at h0
  suffices Z : ∀ (H : Heap) (locs : List Loc) (X : RW D (wM am ca M ++ xs) s.heap H locs), W p l e rm_X8_laysAside s m args below meth c H locs 0 0 Q (F0 m 0 ls []) from Z _ _ X
  intro H locs X
  refine lv_aload_n hx hb dX8_laysAside_0 rfl (lv_at hl 0 rfl) ?_
  refine g_modr K X 1 (by decide) (fun _ _ => rfl) q1400 dX8_laysAside_1 ?_
  refine lv_iconst (v := 0) hx hb dX8_laysAside_4 (by decide) ?_
  refine lv_aload_n hx hb dX8_laysAside_5 rfl (lv_at hl 0 rfl) ?_
  refine g_modr K X 3 (by decide) (fun _ _ => rfl) q1402 dX8_laysAside_6 ?_
  refine lv_iconst (v := 0) hx hb dX8_laysAside_9 (by decide) ?_
  obtain ⟨x1, ex1, h0⟩ := ob_out h0
  obtain ⟨Mv2, eMv2, h0⟩ := lt_out h0
  have kx1 := m_X8_copies l D ca am n M xs 1 102 1 ⟨rfl, fun _ => rfl⟩ 0 3 102 3 ⟨rfl, fun _ => rfl⟩ 0 x1 ex1 H.size
  rw [← eMv2] at kx1
  refine w_callS0 K X wM_fstx kx1 hl.1 4 q1515 q1516 q97 q1517 hs_X8_copies ⟨⟨Nat.le_of_ble_eq_true rfl, Nat.le_of_ble_eq_true rfl⟩, rfl, rfl⟩ rfl rfl (Nat.le_of_ble_eq_true rfl) dX8_laysAside_10 ⟨Nat.le_of_ble_eq_true rfl, Nat.le_of_ble_eq_true rfl⟩ rfl (fun H locs X => ?_)
  refine lv_aload_n hx hb dX8_laysAside_13 rfl (lv_at hl 0 rfl) ?_
  refine g_modr K X 5 (by decide) (fun _ _ => rfl) q1404 dX8_laysAside_14 ?_
  refine lv_iconst (v := 0) hx hb dX8_laysAside_17 (by decide) ?_
  refine lv_aload_n hx hb dX8_laysAside_18 rfl (lv_at hl 0 rfl) ?_
  refine g_modr K X 7 (by decide) (fun _ _ => rfl) q1406 dX8_laysAside_19 ?_
  refine lv_iconst (v := 0) hx hb dX8_laysAside_22 (by decide) ?_
  obtain ⟨x3, ex3, h0⟩ := ob_out h0
  obtain ⟨Mv4, eMv4, h0⟩ := lt_out h0
  have kx3 := m_X8_copiesLongs l D ca am n Mv2 xs 5 6 5 ⟨rfl, fun _ => rfl⟩ 0 7 6 7 ⟨rfl, fun _ => rfl⟩ 0 x3 ex3 H.size
  rw [← eMv4] at kx3
  refine w_callS0 K X wM_fstx kx3 hl.1 4 q1518 q1519 q97 q1520 hs_X8_copiesLongs ⟨⟨Nat.le_of_ble_eq_true rfl, Nat.le_of_ble_eq_true rfl⟩, rfl, rfl⟩ rfl rfl (Nat.le_of_ble_eq_true rfl) dX8_laysAside_23 ⟨Nat.le_of_ble_eq_true rfl, Nat.le_of_ble_eq_true rfl⟩ rfl (fun H locs X => ?_)
  have h0 := Option.some.inj h0
  subst h0
  subst hQ
  exact w_vret K hr0 X wM_fstx hsz dX8_laysAside_26
-- X8_laysBack
def f_X8_laysBack (n : Nat) (M : RowS) : Option RowS :=
  ob (f_X8_copies n M 3 102 0 1 102 0) fun x1 =>
  lt (x1) fun Mv2 =>
  ob (f_X8_copiesLongs n Mv2 7 6 0 5 6 0) fun x3 =>
  lt (x3) fun Mv4 =>
  some Mv4
abbrev rm_X8_laysBack : Room := { frames := 1, cells := 0, slots := 0, locals := 24 }
set_option maxRecDepth 100000 in
set_option maxHeartbeats 4000000 in
theorem m_X8_laysBack (l : Launch) (D : va_G) (ca : Nat → ClassId) (am : Nat → Nat) (n : Nat) (M : RowS) (xs : va_W) (M' : RowS) (h0 : f_X8_laysBack n M = some M') (sz : Nat) : Met l yX8_laysBack (ws_ yX8_laysBack cX8_laysBack 1 none) rm_X8_laysBack (PCw D ca (wM am ca M ++ xs) sz [.ref (am 0)]) (QMw D (wM am ca M ++ xs) (wM am ca (M') ++ xs) sz none) 0 0 (AL (wM am ca M ++ xs) sz) := by
  refine met_of (by decide) (Nat.le_of_ble_eq_true rfl) (fun p e s m args below meth c K hr0 X hsz ls hl => ?_)
  have K : MC D ca p s m args meth c cX8_laysBack 1 RX8 := K
  have hx := K.1
  have hb := K.2.1
  have hl : lv_has ls 1 [(0, .ref (am 0))] := hl
  generalize hQ : MQ below _ args s 0 0 _ = Q
  unfold f_X8_laysBack at h0
  suffices Z : ∀ (H : Heap) (locs : List Loc) (X : RW D (wM am ca M ++ xs) s.heap H locs), W p l e rm_X8_laysBack s m args below meth c H locs 0 0 Q (F0 m 0 ls []) from Z _ _ X
  intro H locs X
  refine lv_aload_n hx hb dX8_laysBack_0 rfl (lv_at hl 0 rfl) ?_
  refine g_modr K X 3 (by decide) (fun _ _ => rfl) q1402 dX8_laysBack_1 ?_
  refine lv_iconst (v := 0) hx hb dX8_laysBack_4 (by decide) ?_
  refine lv_aload_n hx hb dX8_laysBack_5 rfl (lv_at hl 0 rfl) ?_
  refine g_modr K X 1 (by decide) (fun _ _ => rfl) q1400 dX8_laysBack_6 ?_
  refine lv_iconst (v := 0) hx hb dX8_laysBack_9 (by decide) ?_
  obtain ⟨x1, ex1, h0⟩ := ob_out h0
  obtain ⟨Mv2, eMv2, h0⟩ := lt_out h0
  have kx1 := m_X8_copies l D ca am n M xs 3 102 3 ⟨rfl, fun _ => rfl⟩ 0 1 102 1 ⟨rfl, fun _ => rfl⟩ 0 x1 ex1 H.size
  rw [← eMv2] at kx1
  refine w_callS0 K X wM_fstx kx1 hl.1 4 q1515 q1516 q97 q1517 hs_X8_copies ⟨⟨Nat.le_of_ble_eq_true rfl, Nat.le_of_ble_eq_true rfl⟩, rfl, rfl⟩ rfl rfl (Nat.le_of_ble_eq_true rfl) dX8_laysBack_10 ⟨Nat.le_of_ble_eq_true rfl, Nat.le_of_ble_eq_true rfl⟩ rfl (fun H locs X => ?_)
  refine lv_aload_n hx hb dX8_laysBack_13 rfl (lv_at hl 0 rfl) ?_
  refine g_modr K X 7 (by decide) (fun _ _ => rfl) q1406 dX8_laysBack_14 ?_
  refine lv_iconst (v := 0) hx hb dX8_laysBack_17 (by decide) ?_
  refine lv_aload_n hx hb dX8_laysBack_18 rfl (lv_at hl 0 rfl) ?_
  refine g_modr K X 5 (by decide) (fun _ _ => rfl) q1404 dX8_laysBack_19 ?_
  refine lv_iconst (v := 0) hx hb dX8_laysBack_22 (by decide) ?_
  obtain ⟨x3, ex3, h0⟩ := ob_out h0
  obtain ⟨Mv4, eMv4, h0⟩ := lt_out h0
  have kx3 := m_X8_copiesLongs l D ca am n Mv2 xs 7 6 7 ⟨rfl, fun _ => rfl⟩ 0 5 6 5 ⟨rfl, fun _ => rfl⟩ 0 x3 ex3 H.size
  rw [← eMv4] at kx3
  refine w_callS0 K X wM_fstx kx3 hl.1 4 q1518 q1519 q97 q1520 hs_X8_copiesLongs ⟨⟨Nat.le_of_ble_eq_true rfl, Nat.le_of_ble_eq_true rfl⟩, rfl, rfl⟩ rfl rfl (Nat.le_of_ble_eq_true rfl) dX8_laysBack_23 ⟨Nat.le_of_ble_eq_true rfl, Nat.le_of_ble_eq_true rfl⟩ rfl (fun H locs X => ?_)
  have h0 := Option.some.inj h0
  subst h0
  subst hQ
  exact w_vret K hr0 X wM_fstx hsz dX8_laysBack_26
-- X8_lays
def b_X8_lays_39  (M_39 : RowS) : Option RowS :=
  some M_39
def l_X8_lays_3 (a1 : Int32) (z3_2 : Int32) (Mz_3 : RowS) : Option ((Int32 × RowS) ⊕ RowS) :=
  if z3_2 < 0 then
    some (.inr Mz_3)
  else
    if 0 ≤ (Mz_3.1 0 12).toInt ∧ (Mz_3.1 0 12).toInt < 600 then
      lt (si Mz_3 11 (Mz_3.1 0 12).toNatClampNeg ((a1 >>> (z3_2 &&& 31)) &&& 255)) fun Mv3 =>
      lt (si Mv3 0 12 ((Mv3.1 0 12) + 1)) fun Mv4 =>
      lt (z3_2 + (-8)) fun x5 =>
      some (.inl (x5, Mv4))
    else none
def f_X8_lays (n : Nat) (M : RowS) (a1 : Int32) : Option RowS :=
  ob (wloop (fun t => l_X8_lays_3 a1 t.1 t.2) n (24, M)) (fun t => b_X8_lays_39 t)
abbrev rm_X8_lays : Room := { frames := 0, cells := 0, slots := 0, locals := 0 }
set_option maxRecDepth 100000 in
set_option maxHeartbeats 4000000 in
theorem m_X8_lays (l : Launch) (D : va_G) (ca : Nat → ClassId) (am : Nat → Nat) (n : Nat) (M : RowS) (xs : va_W) (a1 : Int32) (M' : RowS) (h0 : f_X8_lays n M a1 = some M') (sz : Nat) : Met l yX8_lays (ws_ yX8_lays cX8_lays 3 none) rm_X8_lays (PCw D ca (wM am ca M ++ xs) sz [.ref (am 0), .int a1]) (QMw D (wM am ca M ++ xs) (wM am ca (M') ++ xs) sz none) 0 0 (AL (wM am ca M ++ xs) sz) := by
  refine met_of (by decide) (Nat.le_of_ble_eq_true rfl) (fun p e s m args below meth c K hr0 X hsz ls hl => ?_)
  have K : MC D ca p s m args meth c cX8_lays 3 RX8 := K
  have hx := K.1
  have hb := K.2.1
  have hl : lv_has ls 3 [(0, .ref (am 0)), (1, .int a1)] := hl
  generalize hQ : MQ below _ args s 0 0 _ = Q
  unfold f_X8_lays at h0
  suffices Z : ∀ (H : Heap) (locs : List Loc) (X : RW D (wM am ca M ++ xs) s.heap H locs), W p l e rm_X8_lays s m args below meth c H locs 0 0 Q (F0 m 0 ls []) from Z _ _ X
  intro H locs X
  have J39 : ∀ (M_39 : RowS) (H : Heap) (locs : List Loc) (X : RW D (wM am ca M_39 ++ xs) s.heap H locs) (ls : Array Slot) (hl : lv_has ls 3 []) (h0 : b_X8_lays_39 M_39 = some M'), W p l e rm_X8_lays s m args below meth c H locs 0 0 Q (F0 m 39 ls []) := by
    intro M_39 H locs X ls hl h0
    unfold b_X8_lays_39 at h0
    have h0 := Option.some.inj h0
    subst h0
    subst hQ
    exact w_vret K hr0 X wM_fstx hsz dX8_lays_39
  refine lv_bipush (v := 24) hx hb dX8_lays_0 (by decide) ?_
  refine lv_istore_n (lv' := [(2, .int 24), (0, .ref (am 0)), (1, .int a1)]) hx hb dX8_lays_2 rfl hl (by decide) rfl (fun ls hl => ?_)
  obtain ⟨e_1, he1, h0⟩ := ob_out h0
  have K3 : ∀ (k : Nat) (z3_2 : Int32) (Mz_3 : RowS) (H : Heap) (locs : List Loc) (X : RW D (wM am ca Mz_3 ++ xs) s.heap H locs) (ls : Array Slot) (hl : lv_has ls 3 [(0, .ref (am 0)), (1, .int a1), (2, .int z3_2)]) (hw : wloop (fun t => l_X8_lays_3 a1 t.1 t.2) k (z3_2, Mz_3) = some e_1), W p l e rm_X8_lays s m args below meth c H locs 0 0 Q (F0 m 3 ls []) := by
    intro k
    induction k with
    | zero => intro z3_2 Mz_3 H locs X ls hl hw; exact (wloop_0 hw).elim
    | succ k ih1 =>
      intro z3_2 Mz_3 H locs X ls hl hw
      obtain ⟨x_1, h1, hx1⟩ := wloop_out hw
      have h1 : l_X8_lays_3 a1 z3_2 Mz_3 = some x_1 := h1
      unfold l_X8_lays_3 at h1
      refine lv_iload_n hx hb dX8_lays_3 rfl (lv_at hl 2 rfl) ?_
      refine lv_if_lt (tgt := 39) hx hb dX8_lays_4 (by decide) (fun c1 => ?_) (fun c1 => ?_)
      · have h1 := if_t c1 h1
        have q1 := wl_r h1 hx1
        exact J39 Mz_3 H locs X ls (lv_sub hl [] rfl) (by rw [q1] at h0; exact h0)
      · have h1 := if_f c1 h1
        refine lv_aload_n hx hb dX8_lays_7 rfl (lv_at hl 0 rfl) ?_
        refine g_modr K X 11 (by decide) (fun _ _ => rfl) q1410 dX8_lays_8 ?_
        refine lv_aload_n hx hb dX8_lays_11 rfl (lv_at hl 0 rfl) ?_
        refine g_modi K X 12 (by decide) (fun _ _ => rfl) q1411 dX8_lays_12 ?_
        refine lv_iload_n hx hb dX8_lays_15 rfl (lv_at hl 1 rfl) ?_
        refine lv_iload_n hx hb dX8_lays_16 rfl (lv_at hl 2 rfl) ?_
        refine lv_ishr hx hb dX8_lays_17 ?_
        refine lv_sipush (v := 255) hx hb dX8_lays_18 (by decide) ?_
        refine lv_iand hx hb dX8_lays_21 ?_
        obtain ⟨c2, h1⟩ := if_o h1
        obtain ⟨Mv3, eMv3, h1⟩ := lt_out h1
        refine s_modi K X 11 9 600 rfl (fun _ => rfl) (inb_vp c2) eMv3 dX8_lays_22 (fun H locs X => ?_)
        refine lv_aload_n hx hb dX8_lays_23 rfl (lv_at hl 0 rfl) ?_
        refine lv_dup hx hb dX8_lays_24 rfl ?_
        refine g_modi K X 12 (by decide) (fun _ _ => rfl) q1411 dX8_lays_25 ?_
        refine lv_iconst (v := 1) hx hb dX8_lays_28 (by decide) ?_
        refine lv_iadd hx hb dX8_lays_29 ?_
        obtain ⟨Mv4, eMv4, h1⟩ := lt_out h1
        refine p_modi (ty := .int) K X 12 (by decide) (fun _ _ => rfl) (by decide +kernel) ⟨rfl, rfl⟩ eMv4 q1411 dX8_lays_30 (fun H locs X => ?_)
        obtain ⟨x5, ex5, h1⟩ := lt_out h1
        refine lv_iinc (v := x5) (lv' := [(2, .int x5), (0, .ref (am 0)), (1, .int a1)]) hx hb dX8_lays_33 hl (k := 2) rfl (by rw [ex5]; rfl) (by decide) rfl (fun ls hl => ?_)
        refine lv_goto (tgt := 3) hx hb dX8_lays_36 (by decide) ?_
        exact ih1 x5 Mv4 H locs X ls (lv_sub hl [1, 2, 0] rfl) (wl_l h1 hx1)
  exact K3 n 24 M H locs X ls (lv_sub hl [1, 2, 0] rfl) he1
-- X8_feed
def f_X8_feed (n : Nat) (M : RowS) (a1 : Int32) (a2 : Int32) (a3 : Int32) (a4 : Int32) (a5 : Int32) : Option (Int32 × RowS) :=
  lt (si M 0 0 0) fun Mv1 =>
  if ((Mv1.1 0 12) + 20) ≤ 600 then
    ob (f_X8_lays n Mv1 a1) fun x3 =>
    lt (x3) fun Mv4 =>
    ob (f_X8_lays n Mv4 a2) fun x5 =>
    lt (x5) fun Mv6 =>
    ob (f_X8_lays n Mv6 a3) fun x7 =>
    lt (x7) fun Mv8 =>
    ob (f_X8_lays n Mv8 a4) fun x9 =>
    lt (x9) fun Mv10 =>
    ob (f_X8_lays n Mv10 a5) fun x11 =>
    lt (x11) fun Mv12 =>
    some ((Mv12.1 0 12), Mv12)
  else
    some ((-1), Mv1)
abbrev rm_X8_feed : Room := { frames := 1, cells := 0, slots := 0, locals := 22 }
set_option maxRecDepth 100000 in
set_option maxHeartbeats 4000000 in
theorem m_X8_feed (l : Launch) (D : va_G) (ca : Nat → ClassId) (am : Nat → Nat) (n : Nat) (M : RowS) (xs : va_W) (a1 : Int32) (a2 : Int32) (a3 : Int32) (a4 : Int32) (a5 : Int32) (res : Int32) (M' : RowS) (h0 : f_X8_feed n M a1 a2 a3 a4 a5 = some (res, M')) (sz : Nat) : Met l yX8_feed (ws_ yX8_feed cX8_feed 6 (some .int)) rm_X8_feed (PCw D ca (wM am ca M ++ xs) sz [.ref (am 0), .int a1, .int a2, .int a3, .int a4, .int a5]) (QMw D (wM am ca M ++ xs) (wM am ca (M') ++ xs) sz (some (.int res))) 0 0 (AL (wM am ca M ++ xs) sz) := by
  refine met_of (by decide) (Nat.le_of_ble_eq_true rfl) (fun p e s m args below meth c K hr0 X hsz ls hl => ?_)
  have K : MC D ca p s m args meth c cX8_feed 6 RX8 := K
  have hx := K.1
  have hb := K.2.1
  have hl : lv_has ls 6 [(0, .ref (am 0)), (1, .int a1), (2, .int a2), (3, .int a3), (4, .int a4), (5, .int a5)] := hl
  generalize hQ : MQ below _ args s 0 0 _ = Q
  unfold f_X8_feed at h0
  suffices Z : ∀ (H : Heap) (locs : List Loc) (X : RW D (wM am ca M ++ xs) s.heap H locs), W p l e rm_X8_feed s m args below meth c H locs 0 0 Q (F0 m 0 ls []) from Z _ _ X
  intro H locs X
  refine lv_aload_n hx hb dX8_feed_0 rfl (lv_at hl 0 rfl) ?_
  refine lv_iconst (v := 0) hx hb dX8_feed_1 (by decide) ?_
  obtain ⟨Mv1, eMv1, h0⟩ := lt_out h0
  refine p_modi (ty := .int) K X 0 (by decide) (fun _ _ => rfl) (by decide +kernel) ⟨rfl, rfl⟩ eMv1 q1399 dX8_feed_2 (fun H locs X => ?_)
  refine lv_aload_n hx hb dX8_feed_5 rfl (lv_at hl 0 rfl) ?_
  refine g_modi K X 12 (by decide) (fun _ _ => rfl) q1411 dX8_feed_6 ?_
  refine lv_bipush (v := 20) hx hb dX8_feed_9 (by decide) ?_
  refine lv_iadd hx hb dX8_feed_11 ?_
  refine lv_sipush (v := 600) hx hb dX8_feed_12 (by decide) ?_
  refine lv_icmp_le (tgt := 20) hx hb dX8_feed_15 (by decide) (fun c2 => ?_) (fun c2 => ?_)
  · have h0 := if_t c2 h0
    refine lv_aload_n hx hb dX8_feed_20 rfl (lv_at hl 0 rfl) ?_
    refine lv_iload_n hx hb dX8_feed_21 rfl (lv_at hl 1 rfl) ?_
    obtain ⟨x3, ex3, h0⟩ := ob_out h0
    obtain ⟨Mv4, eMv4, h0⟩ := lt_out h0
    have kx3 := m_X8_lays l D ca am n Mv1 xs a1 x3 ex3 H.size
    rw [← eMv4] at kx3
    refine w_callV0 K X wM_fstx kx3 hl.1 1 q1492 q1494 q21 q97 q1495 hv_X8_lays ⟨⟨Nat.le_of_ble_eq_true rfl, Nat.le_of_ble_eq_true rfl⟩, rfl, rfl⟩ pl_modo rfl rfl rfl rfl (Nat.le_of_ble_eq_true rfl) dX8_feed_22 ⟨Nat.le_of_ble_eq_true rfl, Nat.le_of_ble_eq_true rfl⟩ rfl (fun H locs X => ?_)
    refine lv_aload_n hx hb dX8_feed_25 rfl (lv_at hl 0 rfl) ?_
    refine lv_iload_n hx hb dX8_feed_26 rfl (lv_at hl 2 rfl) ?_
    obtain ⟨x5, ex5, h0⟩ := ob_out h0
    obtain ⟨Mv6, eMv6, h0⟩ := lt_out h0
    have kx5 := m_X8_lays l D ca am n Mv4 xs a2 x5 ex5 H.size
    rw [← eMv6] at kx5
    refine w_callV0 K X wM_fstx kx5 hl.1 1 q1492 q1494 q21 q97 q1495 hv_X8_lays ⟨⟨Nat.le_of_ble_eq_true rfl, Nat.le_of_ble_eq_true rfl⟩, rfl, rfl⟩ pl_modo rfl rfl rfl rfl (Nat.le_of_ble_eq_true rfl) dX8_feed_27 ⟨Nat.le_of_ble_eq_true rfl, Nat.le_of_ble_eq_true rfl⟩ rfl (fun H locs X => ?_)
    refine lv_aload_n hx hb dX8_feed_30 rfl (lv_at hl 0 rfl) ?_
    refine lv_iload_n hx hb dX8_feed_31 rfl (lv_at hl 3 rfl) ?_
    obtain ⟨x7, ex7, h0⟩ := ob_out h0
    obtain ⟨Mv8, eMv8, h0⟩ := lt_out h0
    have kx7 := m_X8_lays l D ca am n Mv6 xs a3 x7 ex7 H.size
    rw [← eMv8] at kx7
    refine w_callV0 K X wM_fstx kx7 hl.1 1 q1492 q1494 q21 q97 q1495 hv_X8_lays ⟨⟨Nat.le_of_ble_eq_true rfl, Nat.le_of_ble_eq_true rfl⟩, rfl, rfl⟩ pl_modo rfl rfl rfl rfl (Nat.le_of_ble_eq_true rfl) dX8_feed_32 ⟨Nat.le_of_ble_eq_true rfl, Nat.le_of_ble_eq_true rfl⟩ rfl (fun H locs X => ?_)
    refine lv_aload_n hx hb dX8_feed_35 rfl (lv_at hl 0 rfl) ?_
    refine lv_iload hx hb dX8_feed_36 (lv_at hl 4 rfl) ?_
    obtain ⟨x9, ex9, h0⟩ := ob_out h0
    obtain ⟨Mv10, eMv10, h0⟩ := lt_out h0
    have kx9 := m_X8_lays l D ca am n Mv8 xs a4 x9 ex9 H.size
    rw [← eMv10] at kx9
    refine w_callV0 K X wM_fstx kx9 hl.1 1 q1492 q1494 q21 q97 q1495 hv_X8_lays ⟨⟨Nat.le_of_ble_eq_true rfl, Nat.le_of_ble_eq_true rfl⟩, rfl, rfl⟩ pl_modo rfl rfl rfl rfl (Nat.le_of_ble_eq_true rfl) dX8_feed_38 ⟨Nat.le_of_ble_eq_true rfl, Nat.le_of_ble_eq_true rfl⟩ rfl (fun H locs X => ?_)
    refine lv_aload_n hx hb dX8_feed_41 rfl (lv_at hl 0 rfl) ?_
    refine lv_iload hx hb dX8_feed_42 (lv_at hl 5 rfl) ?_
    obtain ⟨x11, ex11, h0⟩ := ob_out h0
    obtain ⟨Mv12, eMv12, h0⟩ := lt_out h0
    have kx11 := m_X8_lays l D ca am n Mv10 xs a5 x11 ex11 H.size
    rw [← eMv12] at kx11
    refine w_callV0 K X wM_fstx kx11 hl.1 1 q1492 q1494 q21 q97 q1495 hv_X8_lays ⟨⟨Nat.le_of_ble_eq_true rfl, Nat.le_of_ble_eq_true rfl⟩, rfl, rfl⟩ pl_modo rfl rfl rfl rfl (Nat.le_of_ble_eq_true rfl) dX8_feed_44 ⟨Nat.le_of_ble_eq_true rfl, Nat.le_of_ble_eq_true rfl⟩ rfl (fun H locs X => ?_)
    refine lv_aload_n hx hb dX8_feed_47 rfl (lv_at hl 0 rfl) ?_
    refine g_modi K X 12 (by decide) (fun _ _ => rfl) q1411 dX8_feed_48 ?_
    have h0 := Option.some.inj h0
    obtain ⟨q_0, q_1⟩ := Prod.mk.inj h0
    subst q_0
    subst q_1
    subst hQ
    exact w_iret K hr0 X wM_fstx hsz dX8_feed_51
  · have h0 := if_f c2 h0
    refine lv_iconst (v := (-1)) hx hb dX8_feed_18 (by decide) ?_
    have h0 := Option.some.inj h0
    obtain ⟨q_0, q_1⟩ := Prod.mk.inj h0
    subst q_0
    subst q_1
    subst hQ
    exact w_iret K hr0 X wM_fstx hsz dX8_feed_19
-- X8_errorPosition
def f_X8_errorPosition (M : RowS) : (Int32 × RowS) :=
  lt (si M 0 0 0) fun Mv1 =>
  ((Mv1.1 0 20), Mv1)
abbrev rm_X8_errorPosition : Room := { frames := 0, cells := 0, slots := 0, locals := 0 }
set_option maxRecDepth 100000 in
set_option maxHeartbeats 4000000 in
theorem m_X8_errorPosition (l : Launch) (D : va_G) (ca : Nat → ClassId) (am : Nat → Nat) (M : RowS) (xs : va_W) (res : Int32) (M' : RowS) (h0 : f_X8_errorPosition M = (res, M')) (sz : Nat) : Met l yX8_errorPosition (ws_ yX8_errorPosition cX8_errorPosition 1 (some .int)) rm_X8_errorPosition (PCw D ca (wM am ca M ++ xs) sz [.ref (am 0)]) (QMw D (wM am ca M ++ xs) (wM am ca (M') ++ xs) sz (some (.int res))) 0 0 (AL (wM am ca M ++ xs) sz) := by
  refine met_of (by decide) (Nat.le_of_ble_eq_true rfl) (fun p e s m args below meth c K hr0 X hsz ls hl => ?_)
  have K : MC D ca p s m args meth c cX8_errorPosition 1 RX8 := K
  have hx := K.1
  have hb := K.2.1
  have hl : lv_has ls 1 [(0, .ref (am 0))] := hl
  generalize hQ : MQ below _ args s 0 0 _ = Q
  unfold f_X8_errorPosition at h0
  suffices Z : ∀ (H : Heap) (locs : List Loc) (X : RW D (wM am ca M ++ xs) s.heap H locs), W p l e rm_X8_errorPosition s m args below meth c H locs 0 0 Q (F0 m 0 ls []) from Z _ _ X
  intro H locs X
  refine lv_aload_n hx hb dX8_errorPosition_0 rfl (lv_at hl 0 rfl) ?_
  refine lv_iconst (v := 0) hx hb dX8_errorPosition_1 (by decide) ?_
  obtain ⟨Mv1, eMv1, h0⟩ := lt_out h0
  refine p_modi (ty := .int) K X 0 (by decide) (fun _ _ => rfl) (by decide +kernel) ⟨rfl, rfl⟩ eMv1 q1399 dX8_errorPosition_2 (fun H locs X => ?_)
  refine lv_aload_n hx hb dX8_errorPosition_5 rfl (lv_at hl 0 rfl) ?_
  refine g_modi K X 20 (by decide) (fun _ _ => rfl) q1419 dX8_errorPosition_6 ?_
  obtain ⟨q_0, q_1⟩ := Prod.mk.inj h0
  subst q_0
  subst q_1
  subst hQ
  exact w_iret K hr0 X wM_fstx hsz dX8_errorPosition_9
-- X8_byteAt
def f_X8_byteAt (M : RowS) (a1 : Int32) : Option Int32 :=
  if (M.1 0 13) ≤ a1 then
    some (-1)
  else
    if 0 ≤ a1.toInt ∧ a1.toInt < 600 then
      some (M.1 11 a1.toNatClampNeg)
    else none
abbrev rm_X8_byteAt : Room := { frames := 0, cells := 0, slots := 0, locals := 0 }
set_option maxRecDepth 100000 in
set_option maxHeartbeats 4000000 in
theorem m_X8_byteAt (l : Launch) (D : va_G) (ca : Nat → ClassId) (am : Nat → Nat) (M : RowS) (xs : va_W) (a1 : Int32) (res : Int32) (h0 : f_X8_byteAt M a1 = some res) (sz : Nat) : Met l yX8_byteAt (ws_ yX8_byteAt cX8_byteAt 2 (some .int)) rm_X8_byteAt (PCw D ca (wM am ca M ++ xs) sz [.ref (am 0), .int a1]) (QMw D (wM am ca M ++ xs) (wM am ca M ++ xs) sz (some (.int res))) 0 0 (AL (wM am ca M ++ xs) sz) := by
  refine met_of (by decide) (Nat.le_of_ble_eq_true rfl) (fun p e s m args below meth c K hr0 X hsz ls hl => ?_)
  have K : MC D ca p s m args meth c cX8_byteAt 2 RX8 := K
  have hx := K.1
  have hb := K.2.1
  have hl : lv_has ls 2 [(0, .ref (am 0)), (1, .int a1)] := hl
  generalize hQ : MQ below _ args s 0 0 _ = Q
  unfold f_X8_byteAt at h0
  suffices Z : ∀ (H : Heap) (locs : List Loc) (X : RW D (wM am ca M ++ xs) s.heap H locs), W p l e rm_X8_byteAt s m args below meth c H locs 0 0 Q (F0 m 0 ls []) from Z _ _ X
  intro H locs X
  refine lv_iload_n hx hb dX8_byteAt_0 rfl (lv_at hl 1 rfl) ?_
  refine lv_aload_n hx hb dX8_byteAt_1 rfl (lv_at hl 0 rfl) ?_
  refine g_modi K X 13 (by decide) (fun _ _ => rfl) q1412 dX8_byteAt_2 ?_
  refine lv_icmp_ge (tgt := 17) hx hb dX8_byteAt_5 (by decide) (fun c1 => ?_) (fun c1 => ?_)
  · have h0 := if_t c1 h0
    refine lv_iconst (v := (-1)) hx hb dX8_byteAt_17 (by decide) ?_
    have h0 := Option.some.inj h0
    subst h0
    subst hQ
    exact w_iret K hr0 X wM_fstx hsz dX8_byteAt_18
  · have h0 := if_f c1 h0
    refine lv_aload_n hx hb dX8_byteAt_8 rfl (lv_at hl 0 rfl) ?_
    refine g_modr K X 11 (by decide) (fun _ _ => rfl) q1410 dX8_byteAt_9 ?_
    refine lv_iload_n hx hb dX8_byteAt_12 rfl (lv_at hl 1 rfl) ?_
    obtain ⟨c2, h0⟩ := if_o h0
    refine a_modi K X 11 9 600 rfl rfl (inb_vp c2) dX8_byteAt_13 ?_
    refine lv_goto (tgt := 18) hx hb dX8_byteAt_14 (by decide) ?_
    have h0 := Option.some.inj h0
    subst h0
    subst hQ
    exact w_iret K hr0 X wM_fstx hsz dX8_byteAt_18
-- X8_isLetter
def f_X8_isLetter (a1 : Int32) : Bool :=
  if a1 < 97 then
    false
  else
    if 122 < a1 then
      false
    else
      true
abbrev rm_X8_isLetter : Room := { frames := 0, cells := 0, slots := 0, locals := 0 }
set_option maxRecDepth 100000 in
set_option maxHeartbeats 4000000 in
theorem m_X8_isLetter (l : Launch) (D : va_G) (ca : Nat → ClassId) (ws : va_W) (a1 : Int32) (res : Bool) (h0 : f_X8_isLetter a1 = res) (sz : Nat) : Met l yX8_isLetter (ws_ yX8_isLetter cX8_isLetter 1 (some .boolean)) rm_X8_isLetter (PCw D ca (ws) sz [.int a1]) (QMw D (ws) (ws) sz (some (.int (b2i res)))) 0 0 (AL (ws) sz) := by
  refine met_of (by decide) (Nat.le_of_ble_eq_true rfl) (fun p e s m args below meth c K hr0 X hsz ls hl => ?_)
  have K : MC D ca p s m args meth c cX8_isLetter 1 RX8 := K
  have hx := K.1
  have hb := K.2.1
  have hl : lv_has ls 1 [(0, .int a1)] := hl
  generalize hQ : MQ below _ args s 0 0 _ = Q
  unfold f_X8_isLetter at h0
  suffices Z : ∀ (H : Heap) (locs : List Loc) (X : RW D (ws) s.heap H locs), W p l e rm_X8_isLetter s m args below meth c H locs 0 0 Q (F0 m 0 ls []) from Z _ _ X
  intro H locs X
  refine lv_iload_n hx hb dX8_isLetter_0 rfl (lv_at hl 0 rfl) ?_
  refine lv_bipush (v := 97) hx hb dX8_isLetter_1 (by decide) ?_
  refine lv_icmp_lt (tgt := 16) hx hb dX8_isLetter_3 (by decide) (fun c1 => ?_) (fun c1 => ?_)
  · have h0 := if_t c1 h0
    refine lv_iconst (v := 0) hx hb dX8_isLetter_16 (by decide) ?_
    subst h0
    subst hQ
    refine w_int (y := b2i false) (by decide) ?_
    exact w_zret K hr0 X rfl hsz (b2i_nar _) dX8_isLetter_17
  · have h0 := if_f c1 h0
    refine lv_iload_n hx hb dX8_isLetter_6 rfl (lv_at hl 0 rfl) ?_
    refine lv_bipush (v := 122) hx hb dX8_isLetter_7 (by decide) ?_
    refine lv_icmp_gt (tgt := 16) hx hb dX8_isLetter_9 (by decide) (fun c2 => ?_) (fun c2 => ?_)
    · have h0 := if_t c2 h0
      refine lv_iconst (v := 0) hx hb dX8_isLetter_16 (by decide) ?_
      subst h0
      subst hQ
      refine w_int (y := b2i false) (by decide) ?_
      exact w_zret K hr0 X rfl hsz (b2i_nar _) dX8_isLetter_17
    · have h0 := if_f c2 h0
      refine lv_iconst (v := 1) hx hb dX8_isLetter_12 (by decide) ?_
      refine lv_goto (tgt := 17) hx hb dX8_isLetter_13 (by decide) ?_
      subst h0
      subst hQ
      refine w_int (y := b2i true) (by decide) ?_
      exact w_zret K hr0 X rfl hsz (b2i_nar _) dX8_isLetter_17
-- X8_isFigure
def f_X8_isFigure (a1 : Int32) : Bool :=
  if a1 < 48 then
    false
  else
    if 57 < a1 then
      false
    else
      true
abbrev rm_X8_isFigure : Room := { frames := 0, cells := 0, slots := 0, locals := 0 }
set_option maxRecDepth 100000 in
set_option maxHeartbeats 4000000 in
theorem m_X8_isFigure (l : Launch) (D : va_G) (ca : Nat → ClassId) (ws : va_W) (a1 : Int32) (res : Bool) (h0 : f_X8_isFigure a1 = res) (sz : Nat) : Met l yX8_isFigure (ws_ yX8_isFigure cX8_isFigure 1 (some .boolean)) rm_X8_isFigure (PCw D ca (ws) sz [.int a1]) (QMw D (ws) (ws) sz (some (.int (b2i res)))) 0 0 (AL (ws) sz) := by
  refine met_of (by decide) (Nat.le_of_ble_eq_true rfl) (fun p e s m args below meth c K hr0 X hsz ls hl => ?_)
  have K : MC D ca p s m args meth c cX8_isFigure 1 RX8 := K
  have hx := K.1
  have hb := K.2.1
  have hl : lv_has ls 1 [(0, .int a1)] := hl
  generalize hQ : MQ below _ args s 0 0 _ = Q
  unfold f_X8_isFigure at h0
  suffices Z : ∀ (H : Heap) (locs : List Loc) (X : RW D (ws) s.heap H locs), W p l e rm_X8_isFigure s m args below meth c H locs 0 0 Q (F0 m 0 ls []) from Z _ _ X
  intro H locs X
  refine lv_iload_n hx hb dX8_isFigure_0 rfl (lv_at hl 0 rfl) ?_
  refine lv_bipush (v := 48) hx hb dX8_isFigure_1 (by decide) ?_
  refine lv_icmp_lt (tgt := 16) hx hb dX8_isFigure_3 (by decide) (fun c1 => ?_) (fun c1 => ?_)
  · have h0 := if_t c1 h0
    refine lv_iconst (v := 0) hx hb dX8_isFigure_16 (by decide) ?_
    subst h0
    subst hQ
    refine w_int (y := b2i false) (by decide) ?_
    exact w_zret K hr0 X rfl hsz (b2i_nar _) dX8_isFigure_17
  · have h0 := if_f c1 h0
    refine lv_iload_n hx hb dX8_isFigure_6 rfl (lv_at hl 0 rfl) ?_
    refine lv_bipush (v := 57) hx hb dX8_isFigure_7 (by decide) ?_
    refine lv_icmp_gt (tgt := 16) hx hb dX8_isFigure_9 (by decide) (fun c2 => ?_) (fun c2 => ?_)
    · have h0 := if_t c2 h0
      refine lv_iconst (v := 0) hx hb dX8_isFigure_16 (by decide) ?_
      subst h0
      subst hQ
      refine w_int (y := b2i false) (by decide) ?_
      exact w_zret K hr0 X rfl hsz (b2i_nar _) dX8_isFigure_17
    · have h0 := if_f c2 h0
      refine lv_iconst (v := 1) hx hb dX8_isFigure_12 (by decide) ?_
      refine lv_goto (tgt := 17) hx hb dX8_isFigure_13 (by decide) ?_
      subst h0
      subst hQ
      refine w_int (y := b2i true) (by decide) ?_
      exact w_zret K hr0 X rfl hsz (b2i_nar _) dX8_isFigure_17
-- X8_readsWord
def b_X8_readsWord_73  (M_73 : RowS) : Option RowS :=
  lt (si M_73 0 16 1) fun Mv5 =>
  some Mv5
def b_X8_readsWord_60  (M_60 : RowS) : Option (RowS ⊕ RowS) :=
  lt (si M_60 0 14 ((M_60.1 0 14) + 1)) fun Mv7 =>
  some (.inl Mv7)
def l_X8_readsWord_5  (Mz_5 : RowS) : Option (RowS ⊕ RowS) :=
  ob (f_X8_byteAt Mz_5 (Mz_5.1 0 14)) fun x2 =>
  lt (f_X8_isLetter x2) fun x3 =>
  if x3 = true then
    if 10 ≤ ((Mz_5.1 0 14) - (Mz_5.1 0 15)) then
      b_X8_readsWord_60 Mz_5
    else
      if 0 ≤ (Mz_5.1 0 14).toInt ∧ (Mz_5.1 0 14).toInt < 600 then
        lt (sl Mz_5 0 18 (((27 * (Mz_5.2 0 18)) + ((Mz_5.1 11 (Mz_5.1 0 14).toNatClampNeg).toInt64)) - 96)) fun Mv9 =>
        b_X8_readsWord_60 Mv9
      else none
  else
    some (.inr Mz_5)
def f_X8_readsWord (n : Nat) (M : RowS) : Option RowS :=
  lt (sl M 0 18 0) fun Mv1 =>
  ob (wloop (fun t => l_X8_readsWord_5 t) n Mv1) (fun t => b_X8_readsWord_73 t)
abbrev rm_X8_readsWord : Room := { frames := 1, cells := 0, slots := 0, locals := 21 }
set_option maxRecDepth 100000 in
set_option maxHeartbeats 4000000 in
theorem m_X8_readsWord (l : Launch) (D : va_G) (ca : Nat → ClassId) (am : Nat → Nat) (n : Nat) (M : RowS) (xs : va_W) (M' : RowS) (h0 : f_X8_readsWord n M = some M') (sz : Nat) : Met l yX8_readsWord (ws_ yX8_readsWord cX8_readsWord 1 none) rm_X8_readsWord (PCw D ca (wM am ca M ++ xs) sz [.ref (am 0)]) (QMw D (wM am ca M ++ xs) (wM am ca (M') ++ xs) sz none) 0 0 (AL (wM am ca M ++ xs) sz) := by
  refine met_of (by decide) (Nat.le_of_ble_eq_true rfl) (fun p e s m args below meth c K hr0 X hsz ls hl => ?_)
  have K : MC D ca p s m args meth c cX8_readsWord 1 RX8 := K
  have hx := K.1
  have hb := K.2.1
  have hl : lv_has ls 1 [(0, .ref (am 0))] := hl
  generalize hQ : MQ below _ args s 0 0 _ = Q
  unfold f_X8_readsWord at h0
  suffices Z : ∀ (H : Heap) (locs : List Loc) (X : RW D (wM am ca M ++ xs) s.heap H locs), W p l e rm_X8_readsWord s m args below meth c H locs 0 0 Q (F0 m 0 ls []) from Z _ _ X
  intro H locs X
  have J73 : ∀ (M_73 : RowS) (H : Heap) (locs : List Loc) (X : RW D (wM am ca M_73 ++ xs) s.heap H locs) (ls : Array Slot) (hl : lv_has ls 1 [(0, .ref (am 0))]) (h0 : b_X8_readsWord_73 M_73 = some M'), W p l e rm_X8_readsWord s m args below meth c H locs 0 0 Q (F0 m 73 ls []) := by
    intro M_73 H locs X ls hl h0
    unfold b_X8_readsWord_73 at h0
    refine lv_aload_n hx hb dX8_readsWord_73 rfl (lv_at hl 0 rfl) ?_
    refine lv_iconst (v := 1) hx hb dX8_readsWord_74 (by decide) ?_
    obtain ⟨Mv5, eMv5, h0⟩ := lt_out h0
    refine p_modi (ty := .int) K X 16 (by decide) (fun _ _ => rfl) (by decide +kernel) ⟨rfl, rfl⟩ eMv5 q1415 dX8_readsWord_75 (fun H locs X => ?_)
    have h0 := Option.some.inj h0
    subst h0
    subst hQ
    exact w_vret K hr0 X wM_fstx hsz dX8_readsWord_78
  refine lv_aload_n hx hb dX8_readsWord_0 rfl (lv_at hl 0 rfl) ?_
  refine lv_lconst (v := 0) hx hb dX8_readsWord_1 (by decide) ?_
  obtain ⟨Mv1, eMv1, h0⟩ := lt_out h0
  refine p_modl K X eMv1 q1417 dX8_readsWord_2 (fun H locs X => ?_)
  obtain ⟨e_1, he1, h0⟩ := ob_out h0
  have K5 : ∀ (k : Nat) (Mz_5 : RowS) (H : Heap) (locs : List Loc) (X : RW D (wM am ca Mz_5 ++ xs) s.heap H locs) (ls : Array Slot) (hl : lv_has ls 1 [(0, .ref (am 0))]) (hw : wloop (fun t => l_X8_readsWord_5 t) k Mz_5 = some e_1), W p l e rm_X8_readsWord s m args below meth c H locs 0 0 Q (F0 m 5 ls []) := by
    intro k
    induction k with
    | zero => intro Mz_5 H locs X ls hl hw; exact (wloop_0 hw).elim
    | succ k ih1 =>
      intro Mz_5 H locs X ls hl hw
      obtain ⟨x_1, h1, hx1⟩ := wloop_out hw
      have h1 : l_X8_readsWord_5 Mz_5 = some x_1 := h1
      unfold l_X8_readsWord_5 at h1
      have J60 : ∀ (M_60 : RowS) (H : Heap) (locs : List Loc) (X : RW D (wM am ca M_60 ++ xs) s.heap H locs) (ls : Array Slot) (hl : lv_has ls 1 [(0, .ref (am 0))]) (h1 : b_X8_readsWord_60 M_60 = some x_1), W p l e rm_X8_readsWord s m args below meth c H locs 0 0 Q (F0 m 60 ls []) := by
        intro M_60 H locs X ls hl h1
        unfold b_X8_readsWord_60 at h1
        refine lv_aload_n hx hb dX8_readsWord_60 rfl (lv_at hl 0 rfl) ?_
        refine lv_dup hx hb dX8_readsWord_61 rfl ?_
        refine g_modi K X 14 (by decide) (fun _ _ => rfl) q1413 dX8_readsWord_62 ?_
        refine lv_iconst (v := 1) hx hb dX8_readsWord_65 (by decide) ?_
        refine lv_iadd hx hb dX8_readsWord_66 ?_
        obtain ⟨Mv7, eMv7, h1⟩ := lt_out h1
        refine p_modi (ty := .int) K X 14 (by decide) (fun _ _ => rfl) (by decide +kernel) ⟨rfl, rfl⟩ eMv7 q1413 dX8_readsWord_67 (fun H locs X => ?_)
        refine lv_goto (tgt := 5) hx hb dX8_readsWord_70 (by decide) ?_
        exact ih1 Mv7 H locs X ls (lv_sub hl [0] rfl) (wl_l h1 hx1)
      refine lv_aload_n hx hb dX8_readsWord_5 rfl (lv_at hl 0 rfl) ?_
      refine lv_aload_n hx hb dX8_readsWord_6 rfl (lv_at hl 0 rfl) ?_
      refine g_modi K X 14 (by decide) (fun _ _ => rfl) q1413 dX8_readsWord_7 ?_
      obtain ⟨x2, ex2, h1⟩ := ob_out h1
      have kx2 := m_X8_byteAt l D ca am Mz_5 xs (Mz_5.1 0 14) x2 ex2 H.size
      refine w_callV0 K X wM_fstx kx2 hl.1 1 q1529 q1531 q26 q97 q1532 hv_X8_byteAt ⟨⟨Nat.le_of_ble_eq_true rfl, Nat.le_of_ble_eq_true rfl⟩, rfl, rfl⟩ pl_modo rfl rfl rfl rfl (Nat.le_of_ble_eq_true rfl) dX8_readsWord_10 ⟨Nat.le_of_ble_eq_true rfl, Nat.le_of_ble_eq_true rfl⟩ rfl (fun H locs X => ?_)
      obtain ⟨x3, ex3, h1⟩ := lt_out h1
      have kx3 := m_X8_isLetter l D ca (wM am ca Mz_5 ++ xs) x2 x3 ex3.symm H.size
      refine w_callS0 K X wM_fstx kx3 hl.1 1 q1533 q1534 q97 q1535 hs_X8_isLetter ⟨⟨Nat.le_of_ble_eq_true rfl, Nat.le_of_ble_eq_true rfl⟩, rfl, rfl⟩ rfl rfl (Nat.le_of_ble_eq_true rfl) dX8_readsWord_13 ⟨Nat.le_of_ble_eq_true rfl, Nat.le_of_ble_eq_true rfl⟩ rfl (fun H locs X => ?_)
      refine w_zeq (tgt := 73) K dX8_readsWord_16 (by decide) (fun c4 => ?_) (fun c4 => ?_)
      · have h1 := if_f c4 h1
        have q1 := wl_r h1 hx1
        exact J73 Mz_5 H locs X ls (lv_sub hl [0] rfl) (by rw [q1] at h0; exact h0)
      · have h1 := if_t c4 h1
        refine lv_aload_n hx hb dX8_readsWord_19 rfl (lv_at hl 0 rfl) ?_
        refine g_modi K X 14 (by decide) (fun _ _ => rfl) q1413 dX8_readsWord_20 ?_
        refine lv_aload_n hx hb dX8_readsWord_23 rfl (lv_at hl 0 rfl) ?_
        refine g_modi K X 15 (by decide) (fun _ _ => rfl) q1414 dX8_readsWord_24 ?_
        refine lv_isub hx hb dX8_readsWord_27 ?_
        refine lv_bipush (v := 10) hx hb dX8_readsWord_28 (by decide) ?_
        refine lv_icmp_ge (tgt := 60) hx hb dX8_readsWord_30 (by decide) (fun c6 => ?_) (fun c6 => ?_)
        · have h1 := if_t c6 h1
          exact J60 Mz_5 H locs X ls (lv_sub hl [0] rfl) h1
        · have h1 := if_f c6 h1
          refine lv_aload_n hx hb dX8_readsWord_33 rfl (lv_at hl 0 rfl) ?_
          refine lv_ldc2 hx hb K.2.2.2.1 (K.2.2.2.2.1 _ q1540) dX8_readsWord_34 ?_
          refine lv_aload_n hx hb dX8_readsWord_37 rfl (lv_at hl 0 rfl) ?_
          refine g_modl K X q1417 dX8_readsWord_38 ?_
          refine lv_lmul hx hb dX8_readsWord_41 ?_
          refine lv_aload_n hx hb dX8_readsWord_42 rfl (lv_at hl 0 rfl) ?_
          refine g_modr K X 11 (by decide) (fun _ _ => rfl) q1410 dX8_readsWord_43 ?_
          refine lv_aload_n hx hb dX8_readsWord_46 rfl (lv_at hl 0 rfl) ?_
          refine g_modi K X 14 (by decide) (fun _ _ => rfl) q1413 dX8_readsWord_47 ?_
          obtain ⟨c8, h1⟩ := if_o h1
          refine a_modi K X 11 9 600 rfl rfl (inb_vp c8) dX8_readsWord_50 ?_
          refine lv_i2l hx hb dX8_readsWord_51 rfl ?_
          refine lv_ladd hx hb dX8_readsWord_52 ?_
          refine lv_ldc2 hx hb K.2.2.2.1 (K.2.2.2.2.1 _ q1541) dX8_readsWord_53 ?_
          refine lv_lsub hx hb dX8_readsWord_56 ?_
          obtain ⟨Mv9, eMv9, h1⟩ := lt_out h1
          refine p_modl K X eMv9 q1417 dX8_readsWord_57 (fun H locs X => ?_)
          exact J60 Mv9 H locs X ls (lv_sub hl [0] rfl) h1
  exact K5 n Mv1 H locs X ls (lv_sub hl [0] rfl) he1
-- X8_readsNumber
def b_X8_readsNumber_72  (M_72 : RowS) : Option RowS :=
  lt (si M_72 0 16 2) fun Mv5 =>
  some Mv5
def b_X8_readsNumber_56  (y56_s1 : Int32) (M_56 : RowS) : Option (RowS ⊕ RowS) :=
  lt (si M_56 0 17 y56_s1) fun Mv8 =>
  lt (si Mv8 0 14 ((Mv8.1 0 14) + 1)) fun Mv9 =>
  some (.inl Mv9)
def l_X8_readsNumber_5  (Mz_5 : RowS) : Option (RowS ⊕ RowS) :=
  ob (f_X8_byteAt Mz_5 (Mz_5.1 0 14)) fun x2 =>
  lt (f_X8_isFigure x2) fun x3 =>
  if x3 = true then
    if (Mz_5.1 0 17) ≤ 9999999 then
      if 0 ≤ (Mz_5.1 0 14).toInt ∧ (Mz_5.1 0 14).toInt < 600 then
        b_X8_readsNumber_56 (((10 * (Mz_5.1 0 17)) + (Mz_5.1 11 (Mz_5.1 0 14).toNatClampNeg)) - 48) Mz_5
      else none
    else
      b_X8_readsNumber_56 (Mz_5.1 0 17) Mz_5
  else
    some (.inr Mz_5)
def f_X8_readsNumber (n : Nat) (M : RowS) : Option RowS :=
  lt (si M 0 17 0) fun Mv1 =>
  ob (wloop (fun t => l_X8_readsNumber_5 t) n Mv1) (fun t => b_X8_readsNumber_72 t)
abbrev rm_X8_readsNumber : Room := { frames := 1, cells := 0, slots := 0, locals := 21 }
set_option maxRecDepth 100000 in
set_option maxHeartbeats 4000000 in
theorem m_X8_readsNumber (l : Launch) (D : va_G) (ca : Nat → ClassId) (am : Nat → Nat) (n : Nat) (M : RowS) (xs : va_W) (M' : RowS) (h0 : f_X8_readsNumber n M = some M') (sz : Nat) : Met l yX8_readsNumber (ws_ yX8_readsNumber cX8_readsNumber 1 none) rm_X8_readsNumber (PCw D ca (wM am ca M ++ xs) sz [.ref (am 0)]) (QMw D (wM am ca M ++ xs) (wM am ca (M') ++ xs) sz none) 0 0 (AL (wM am ca M ++ xs) sz) := by
  refine met_of (by decide) (Nat.le_of_ble_eq_true rfl) (fun p e s m args below meth c K hr0 X hsz ls hl => ?_)
  have K : MC D ca p s m args meth c cX8_readsNumber 1 RX8 := K
  have hx := K.1
  have hb := K.2.1
  have hl : lv_has ls 1 [(0, .ref (am 0))] := hl
  generalize hQ : MQ below _ args s 0 0 _ = Q
  unfold f_X8_readsNumber at h0
  suffices Z : ∀ (H : Heap) (locs : List Loc) (X : RW D (wM am ca M ++ xs) s.heap H locs), W p l e rm_X8_readsNumber s m args below meth c H locs 0 0 Q (F0 m 0 ls []) from Z _ _ X
  intro H locs X
  have J72 : ∀ (M_72 : RowS) (H : Heap) (locs : List Loc) (X : RW D (wM am ca M_72 ++ xs) s.heap H locs) (ls : Array Slot) (hl : lv_has ls 1 [(0, .ref (am 0))]) (h0 : b_X8_readsNumber_72 M_72 = some M'), W p l e rm_X8_readsNumber s m args below meth c H locs 0 0 Q (F0 m 72 ls []) := by
    intro M_72 H locs X ls hl h0
    unfold b_X8_readsNumber_72 at h0
    refine lv_aload_n hx hb dX8_readsNumber_72 rfl (lv_at hl 0 rfl) ?_
    refine lv_iconst (v := 2) hx hb dX8_readsNumber_73 (by decide) ?_
    obtain ⟨Mv5, eMv5, h0⟩ := lt_out h0
    refine p_modi (ty := .int) K X 16 (by decide) (fun _ _ => rfl) (by decide +kernel) ⟨rfl, rfl⟩ eMv5 q1415 dX8_readsNumber_74 (fun H locs X => ?_)
    have h0 := Option.some.inj h0
    subst h0
    subst hQ
    exact w_vret K hr0 X wM_fstx hsz dX8_readsNumber_77
  refine lv_aload_n hx hb dX8_readsNumber_0 rfl (lv_at hl 0 rfl) ?_
  refine lv_iconst (v := 0) hx hb dX8_readsNumber_1 (by decide) ?_
  obtain ⟨Mv1, eMv1, h0⟩ := lt_out h0
  refine p_modi (ty := .int) K X 17 (by decide) (fun _ _ => rfl) (by decide +kernel) ⟨rfl, rfl⟩ eMv1 q1416 dX8_readsNumber_2 (fun H locs X => ?_)
  obtain ⟨e_1, he1, h0⟩ := ob_out h0
  have K5 : ∀ (k : Nat) (Mz_5 : RowS) (H : Heap) (locs : List Loc) (X : RW D (wM am ca Mz_5 ++ xs) s.heap H locs) (ls : Array Slot) (hl : lv_has ls 1 [(0, .ref (am 0))]) (hw : wloop (fun t => l_X8_readsNumber_5 t) k Mz_5 = some e_1), W p l e rm_X8_readsNumber s m args below meth c H locs 0 0 Q (F0 m 5 ls []) := by
    intro k
    induction k with
    | zero => intro Mz_5 H locs X ls hl hw; exact (wloop_0 hw).elim
    | succ k ih1 =>
      intro Mz_5 H locs X ls hl hw
      obtain ⟨x_1, h1, hx1⟩ := wloop_out hw
      have h1 : l_X8_readsNumber_5 Mz_5 = some x_1 := h1
      unfold l_X8_readsNumber_5 at h1
      have J56 : ∀ (y56_s1 : Int32) (M_56 : RowS) (H : Heap) (locs : List Loc) (X : RW D (wM am ca M_56 ++ xs) s.heap H locs) (ls : Array Slot) (hl : lv_has ls 1 [(0, .ref (am 0))]) (h1 : b_X8_readsNumber_56 y56_s1 M_56 = some x_1), W p l e rm_X8_readsNumber s m args below meth c H locs 0 0 Q (F0 m 56 ls [.int y56_s1, .ref (am 0)]) := by
        intro y56_s1 M_56 H locs X ls hl h1
        unfold b_X8_readsNumber_56 at h1
        obtain ⟨Mv8, eMv8, h1⟩ := lt_out h1
        refine p_modi (ty := .int) K X 17 (by decide) (fun _ _ => rfl) (by decide +kernel) ⟨rfl, rfl⟩ eMv8 q1416 dX8_readsNumber_56 (fun H locs X => ?_)
        refine lv_aload_n hx hb dX8_readsNumber_59 rfl (lv_at hl 0 rfl) ?_
        refine lv_dup hx hb dX8_readsNumber_60 rfl ?_
        refine g_modi K X 14 (by decide) (fun _ _ => rfl) q1413 dX8_readsNumber_61 ?_
        refine lv_iconst (v := 1) hx hb dX8_readsNumber_64 (by decide) ?_
        refine lv_iadd hx hb dX8_readsNumber_65 ?_
        obtain ⟨Mv9, eMv9, h1⟩ := lt_out h1
        refine p_modi (ty := .int) K X 14 (by decide) (fun _ _ => rfl) (by decide +kernel) ⟨rfl, rfl⟩ eMv9 q1413 dX8_readsNumber_66 (fun H locs X => ?_)
        refine lv_goto (tgt := 5) hx hb dX8_readsNumber_69 (by decide) ?_
        exact ih1 Mv9 H locs X ls (lv_sub hl [0] rfl) (wl_l h1 hx1)
      refine lv_aload_n hx hb dX8_readsNumber_5 rfl (lv_at hl 0 rfl) ?_
      refine lv_aload_n hx hb dX8_readsNumber_6 rfl (lv_at hl 0 rfl) ?_
      refine g_modi K X 14 (by decide) (fun _ _ => rfl) q1413 dX8_readsNumber_7 ?_
      obtain ⟨x2, ex2, h1⟩ := ob_out h1
      have kx2 := m_X8_byteAt l D ca am Mz_5 xs (Mz_5.1 0 14) x2 ex2 H.size
      refine w_callV0 K X wM_fstx kx2 hl.1 1 q1529 q1531 q26 q97 q1532 hv_X8_byteAt ⟨⟨Nat.le_of_ble_eq_true rfl, Nat.le_of_ble_eq_true rfl⟩, rfl, rfl⟩ pl_modo rfl rfl rfl rfl (Nat.le_of_ble_eq_true rfl) dX8_readsNumber_10 ⟨Nat.le_of_ble_eq_true rfl, Nat.le_of_ble_eq_true rfl⟩ rfl (fun H locs X => ?_)
      obtain ⟨x3, ex3, h1⟩ := lt_out h1
      have kx3 := m_X8_isFigure l D ca (wM am ca Mz_5 ++ xs) x2 x3 ex3.symm H.size
      refine w_callS0 K X wM_fstx kx3 hl.1 1 q1542 q1543 q97 q1544 hs_X8_isFigure ⟨⟨Nat.le_of_ble_eq_true rfl, Nat.le_of_ble_eq_true rfl⟩, rfl, rfl⟩ rfl rfl (Nat.le_of_ble_eq_true rfl) dX8_readsNumber_13 ⟨Nat.le_of_ble_eq_true rfl, Nat.le_of_ble_eq_true rfl⟩ rfl (fun H locs X => ?_)
      refine w_zeq (tgt := 72) K dX8_readsNumber_16 (by decide) (fun c4 => ?_) (fun c4 => ?_)
      · have h1 := if_f c4 h1
        have q1 := wl_r h1 hx1
        exact J72 Mz_5 H locs X ls (lv_sub hl [0] rfl) (by rw [q1] at h0; exact h0)
      · have h1 := if_t c4 h1
        refine lv_aload_n hx hb dX8_readsNumber_19 rfl (lv_at hl 0 rfl) ?_
        refine lv_aload_n hx hb dX8_readsNumber_20 rfl (lv_at hl 0 rfl) ?_
        refine g_modi K X 17 (by decide) (fun _ _ => rfl) q1416 dX8_readsNumber_21 ?_
        refine lv_ldc hx hb K.2.2.2.1 (K.2.2.2.2.1 _ q1549) dX8_readsNumber_24 ?_
        refine lv_icmp_le (tgt := 36) hx hb dX8_readsNumber_26 (by decide) (fun c6 => ?_) (fun c6 => ?_)
        · have h1 := if_t c6 h1
          refine lv_bipush (v := 10) hx hb dX8_readsNumber_36 (by decide) ?_
          refine lv_aload_n hx hb dX8_readsNumber_38 rfl (lv_at hl 0 rfl) ?_
          refine g_modi K X 17 (by decide) (fun _ _ => rfl) q1416 dX8_readsNumber_39 ?_
          refine lv_imul hx hb dX8_readsNumber_42 ?_
          refine lv_aload_n hx hb dX8_readsNumber_43 rfl (lv_at hl 0 rfl) ?_
          refine g_modr K X 11 (by decide) (fun _ _ => rfl) q1410 dX8_readsNumber_44 ?_
          refine lv_aload_n hx hb dX8_readsNumber_47 rfl (lv_at hl 0 rfl) ?_
          refine g_modi K X 14 (by decide) (fun _ _ => rfl) q1413 dX8_readsNumber_48 ?_
          obtain ⟨c7, h1⟩ := if_o h1
          refine a_modi K X 11 9 600 rfl rfl (inb_vp c7) dX8_readsNumber_51 ?_
          refine lv_iadd hx hb dX8_readsNumber_52 ?_
          refine lv_bipush (v := 48) hx hb dX8_readsNumber_53 (by decide) ?_
          refine lv_isub hx hb dX8_readsNumber_55 ?_
          exact J56 (((10 * (Mz_5.1 0 17)) + (Mz_5.1 11 (Mz_5.1 0 14).toNatClampNeg)) - 48) Mz_5 H locs X ls (lv_sub hl [0] rfl) h1
        · have h1 := if_f c6 h1
          refine lv_aload_n hx hb dX8_readsNumber_29 rfl (lv_at hl 0 rfl) ?_
          refine g_modi K X 17 (by decide) (fun _ _ => rfl) q1416 dX8_readsNumber_30 ?_
          refine lv_goto (tgt := 56) hx hb dX8_readsNumber_33 (by decide) ?_
          exact J56 (Mz_5.1 0 17) Mz_5 H locs X ls (lv_sub hl [0] rfl) h1
  exact K5 n Mv1 H locs X ls (lv_sub hl [0] rfl) he1
-- X8_next
def b_X8_next_26  (M_26 : RowS) : Option (RowS ⊕ RowS) :=
  lt (si M_26 0 14 ((M_26.1 0 14) + 1)) fun Mv3 =>
  some (.inl Mv3)
def b_X8_next_39 (n : Nat) (M_39 : RowS) : Option RowS :=
  lt (si M_39 0 15 (M_39.1 0 14)) fun Mv6 =>
  if (Mv6.1 0 14) < (Mv6.1 0 13) then
    if 0 ≤ (Mv6.1 0 14).toInt ∧ (Mv6.1 0 14).toInt < 600 then
      lt (f_X8_isLetter (Mv6.1 11 (Mv6.1 0 14).toNatClampNeg)) fun x9 =>
      if x9 = true then
        ob (f_X8_readsWord n Mv6) fun x18 =>
        lt (x18) fun Mv19 =>
        some Mv19
      else
        if 0 ≤ (Mv6.1 0 14).toInt ∧ (Mv6.1 0 14).toInt < 600 then
          lt (f_X8_isFigure (Mv6.1 11 (Mv6.1 0 14).toNatClampNeg)) fun x12 =>
          if x12 = true then
            ob (f_X8_readsNumber n Mv6) fun x16 =>
            lt (x16) fun Mv17 =>
            some Mv17
          else
            lt (si Mv6 0 16 3) fun Mv14 =>
            lt (si Mv14 0 14 ((Mv14.1 0 14) + 1)) fun Mv15 =>
            some Mv15
        else none
    else none
  else
    lt (si Mv6 0 16 0) fun Mv20 =>
    some Mv20
def l_X8_next_0  (Mz_0 : RowS) : Option (RowS ⊕ RowS) :=
  ob (f_X8_byteAt Mz_0 (Mz_0.1 0 14)) fun x1 =>
  if x1 = 32 then
    b_X8_next_26 Mz_0
  else
    ob (f_X8_byteAt Mz_0 (Mz_0.1 0 14)) fun x4 =>
    if x4 = 10 then
      b_X8_next_26 Mz_0
    else
      some (.inr Mz_0)
def f_X8_next (n : Nat) (M : RowS) : Option RowS :=
  ob (wloop (fun t => l_X8_next_0 t) n M) (fun t => b_X8_next_39 n t)
abbrev rm_X8_next : Room := { frames := 2, cells := 0, slots := 0, locals := 41 }
set_option maxRecDepth 100000 in
set_option maxHeartbeats 4000000 in
theorem m_X8_next (l : Launch) (D : va_G) (ca : Nat → ClassId) (am : Nat → Nat) (n : Nat) (M : RowS) (xs : va_W) (M' : RowS) (h0 : f_X8_next n M = some M') (sz : Nat) : Met l yX8_next (ws_ yX8_next cX8_next 1 none) rm_X8_next (PCw D ca (wM am ca M ++ xs) sz [.ref (am 0)]) (QMw D (wM am ca M ++ xs) (wM am ca (M') ++ xs) sz none) 0 0 (AL (wM am ca M ++ xs) sz) := by
  refine met_of (by decide) (Nat.le_of_ble_eq_true rfl) (fun p e s m args below meth c K hr0 X hsz ls hl => ?_)
  have K : MC D ca p s m args meth c cX8_next 1 RX8 := K
  have hx := K.1
  have hb := K.2.1
  have hl : lv_has ls 1 [(0, .ref (am 0))] := hl
  generalize hQ : MQ below _ args s 0 0 _ = Q
  unfold f_X8_next at h0
  suffices Z : ∀ (H : Heap) (locs : List Loc) (X : RW D (wM am ca M ++ xs) s.heap H locs), W p l e rm_X8_next s m args below meth c H locs 0 0 Q (F0 m 0 ls []) from Z _ _ X
  intro H locs X
  have J39 : ∀ (M_39 : RowS) (H : Heap) (locs : List Loc) (X : RW D (wM am ca M_39 ++ xs) s.heap H locs) (ls : Array Slot) (hl : lv_has ls 1 [(0, .ref (am 0))]) (h0 : b_X8_next_39 n M_39 = some M'), W p l e rm_X8_next s m args below meth c H locs 0 0 Q (F0 m 39 ls []) := by
    intro M_39 H locs X ls hl h0
    unfold b_X8_next_39 at h0
    refine lv_aload_n hx hb dX8_next_39 rfl (lv_at hl 0 rfl) ?_
    refine lv_aload_n hx hb dX8_next_40 rfl (lv_at hl 0 rfl) ?_
    refine g_modi K X 14 (by decide) (fun _ _ => rfl) q1413 dX8_next_41 ?_
    obtain ⟨Mv6, eMv6, h0⟩ := lt_out h0
    refine p_modi (ty := .int) K X 15 (by decide) (fun _ _ => rfl) (by decide +kernel) ⟨rfl, rfl⟩ eMv6 q1414 dX8_next_44 (fun H locs X => ?_)
    refine lv_aload_n hx hb dX8_next_47 rfl (lv_at hl 0 rfl) ?_
    refine g_modi K X 14 (by decide) (fun _ _ => rfl) q1413 dX8_next_48 ?_
    refine lv_aload_n hx hb dX8_next_51 rfl (lv_at hl 0 rfl) ?_
    refine g_modi K X 13 (by decide) (fun _ _ => rfl) q1412 dX8_next_52 ?_
    refine lv_icmp_lt (tgt := 66) hx hb dX8_next_55 (by decide) (fun c7 => ?_) (fun c7 => ?_)
    · have h0 := if_t c7 h0
      refine lv_aload_n hx hb dX8_next_66 rfl (lv_at hl 0 rfl) ?_
      refine g_modr K X 11 (by decide) (fun _ _ => rfl) q1410 dX8_next_67 ?_
      refine lv_aload_n hx hb dX8_next_70 rfl (lv_at hl 0 rfl) ?_
      refine g_modi K X 14 (by decide) (fun _ _ => rfl) q1413 dX8_next_71 ?_
      obtain ⟨c8, h0⟩ := if_o h0
      refine a_modi K X 11 9 600 rfl rfl (inb_vp c8) dX8_next_74 ?_
      obtain ⟨x9, ex9, h0⟩ := lt_out h0
      have kx9 := m_X8_isLetter l D ca (wM am ca Mv6 ++ xs) (Mv6.1 11 (Mv6.1 0 14).toNatClampNeg) x9 ex9.symm H.size
      refine w_callS0 K X wM_fstx kx9 hl.1 1 q1533 q1534 q97 q1535 hs_X8_isLetter ⟨⟨Nat.le_of_ble_eq_true rfl, Nat.le_of_ble_eq_true rfl⟩, rfl, rfl⟩ rfl rfl (Nat.le_of_ble_eq_true rfl) dX8_next_75 ⟨Nat.le_of_ble_eq_true rfl, Nat.le_of_ble_eq_true rfl⟩ rfl (fun H locs X => ?_)
      refine w_zeq (tgt := 88) K dX8_next_78 (by decide) (fun c10 => ?_) (fun c10 => ?_)
      · have h0 := if_f c10 h0
        refine lv_aload_n hx hb dX8_next_88 rfl (lv_at hl 0 rfl) ?_
        refine g_modr K X 11 (by decide) (fun _ _ => rfl) q1410 dX8_next_89 ?_
        refine lv_aload_n hx hb dX8_next_92 rfl (lv_at hl 0 rfl) ?_
        refine g_modi K X 14 (by decide) (fun _ _ => rfl) q1413 dX8_next_93 ?_
        obtain ⟨c11, h0⟩ := if_o h0
        refine a_modi K X 11 9 600 rfl rfl (inb_vp c11) dX8_next_96 ?_
        obtain ⟨x12, ex12, h0⟩ := lt_out h0
        have kx12 := m_X8_isFigure l D ca (wM am ca Mv6 ++ xs) (Mv6.1 11 (Mv6.1 0 14).toNatClampNeg) x12 ex12.symm H.size
        refine w_callS0 K X wM_fstx kx12 hl.1 1 q1542 q1543 q97 q1544 hs_X8_isFigure ⟨⟨Nat.le_of_ble_eq_true rfl, Nat.le_of_ble_eq_true rfl⟩, rfl, rfl⟩ rfl rfl (Nat.le_of_ble_eq_true rfl) dX8_next_97 ⟨Nat.le_of_ble_eq_true rfl, Nat.le_of_ble_eq_true rfl⟩ rfl (fun H locs X => ?_)
        refine w_zeq (tgt := 110) K dX8_next_100 (by decide) (fun c13 => ?_) (fun c13 => ?_)
        · have h0 := if_f c13 h0
          refine lv_aload_n hx hb dX8_next_110 rfl (lv_at hl 0 rfl) ?_
          refine lv_iconst (v := 3) hx hb dX8_next_111 (by decide) ?_
          obtain ⟨Mv14, eMv14, h0⟩ := lt_out h0
          refine p_modi (ty := .int) K X 16 (by decide) (fun _ _ => rfl) (by decide +kernel) ⟨rfl, rfl⟩ eMv14 q1415 dX8_next_112 (fun H locs X => ?_)
          refine lv_aload_n hx hb dX8_next_115 rfl (lv_at hl 0 rfl) ?_
          refine lv_dup hx hb dX8_next_116 rfl ?_
          refine g_modi K X 14 (by decide) (fun _ _ => rfl) q1413 dX8_next_117 ?_
          refine lv_iconst (v := 1) hx hb dX8_next_120 (by decide) ?_
          refine lv_iadd hx hb dX8_next_121 ?_
          obtain ⟨Mv15, eMv15, h0⟩ := lt_out h0
          refine p_modi (ty := .int) K X 14 (by decide) (fun _ _ => rfl) (by decide +kernel) ⟨rfl, rfl⟩ eMv15 q1413 dX8_next_122 (fun H locs X => ?_)
          have h0 := Option.some.inj h0
          subst h0
          subst hQ
          exact w_vret K hr0 X wM_fstx hsz dX8_next_125
        · have h0 := if_t c13 h0
          refine lv_aload_n hx hb dX8_next_103 rfl (lv_at hl 0 rfl) ?_
          obtain ⟨x16, ex16, h0⟩ := ob_out h0
          obtain ⟨Mv17, eMv17, h0⟩ := lt_out h0
          have kx16 := m_X8_readsNumber l D ca am n Mv6 xs x16 ex16 H.size
          rw [← eMv17] at kx16
          refine w_callV0 K X wM_fstx kx16 hl.1 0 q1545 q1547 q28 q97 q1548 hv_X8_readsNumber ⟨⟨Nat.le_of_ble_eq_true rfl, Nat.le_of_ble_eq_true rfl⟩, rfl, rfl⟩ pl_modo rfl rfl rfl rfl (Nat.le_of_ble_eq_true rfl) dX8_next_104 ⟨Nat.le_of_ble_eq_true rfl, Nat.le_of_ble_eq_true rfl⟩ rfl (fun H locs X => ?_)
          refine lv_goto (tgt := 125) hx hb dX8_next_107 (by decide) ?_
          have h0 := Option.some.inj h0
          subst h0
          subst hQ
          exact w_vret K hr0 X wM_fstx hsz dX8_next_125
      · have h0 := if_t c10 h0
        refine lv_aload_n hx hb dX8_next_81 rfl (lv_at hl 0 rfl) ?_
        obtain ⟨x18, ex18, h0⟩ := ob_out h0
        obtain ⟨Mv19, eMv19, h0⟩ := lt_out h0
        have kx18 := m_X8_readsWord l D ca am n Mv6 xs x18 ex18 H.size
        rw [← eMv19] at kx18
        refine w_callV0 K X wM_fstx kx18 hl.1 0 q1536 q1538 q27 q97 q1539 hv_X8_readsWord ⟨⟨Nat.le_of_ble_eq_true rfl, Nat.le_of_ble_eq_true rfl⟩, rfl, rfl⟩ pl_modo rfl rfl rfl rfl (Nat.le_of_ble_eq_true rfl) dX8_next_82 ⟨Nat.le_of_ble_eq_true rfl, Nat.le_of_ble_eq_true rfl⟩ rfl (fun H locs X => ?_)
        refine lv_goto (tgt := 125) hx hb dX8_next_85 (by decide) ?_
        have h0 := Option.some.inj h0
        subst h0
        subst hQ
        exact w_vret K hr0 X wM_fstx hsz dX8_next_125
    · have h0 := if_f c7 h0
      refine lv_aload_n hx hb dX8_next_58 rfl (lv_at hl 0 rfl) ?_
      refine lv_iconst (v := 0) hx hb dX8_next_59 (by decide) ?_
      obtain ⟨Mv20, eMv20, h0⟩ := lt_out h0
      refine p_modi (ty := .int) K X 16 (by decide) (fun _ _ => rfl) (by decide +kernel) ⟨rfl, rfl⟩ eMv20 q1415 dX8_next_60 (fun H locs X => ?_)
      refine lv_goto (tgt := 125) hx hb dX8_next_63 (by decide) ?_
      have h0 := Option.some.inj h0
      subst h0
      subst hQ
      exact w_vret K hr0 X wM_fstx hsz dX8_next_125
  obtain ⟨e_1, he1, h0⟩ := ob_out h0
  have K0 : ∀ (k : Nat) (Mz_0 : RowS) (H : Heap) (locs : List Loc) (X : RW D (wM am ca Mz_0 ++ xs) s.heap H locs) (ls : Array Slot) (hl : lv_has ls 1 [(0, .ref (am 0))]) (hw : wloop (fun t => l_X8_next_0 t) k Mz_0 = some e_1), W p l e rm_X8_next s m args below meth c H locs 0 0 Q (F0 m 0 ls []) := by
    intro k
    induction k with
    | zero => intro Mz_0 H locs X ls hl hw; exact (wloop_0 hw).elim
    | succ k ih1 =>
      intro Mz_0 H locs X ls hl hw
      obtain ⟨x_1, h1, hx1⟩ := wloop_out hw
      have h1 : l_X8_next_0 Mz_0 = some x_1 := h1
      unfold l_X8_next_0 at h1
      have J26 : ∀ (M_26 : RowS) (H : Heap) (locs : List Loc) (X : RW D (wM am ca M_26 ++ xs) s.heap H locs) (ls : Array Slot) (hl : lv_has ls 1 [(0, .ref (am 0))]) (h1 : b_X8_next_26 M_26 = some x_1), W p l e rm_X8_next s m args below meth c H locs 0 0 Q (F0 m 26 ls []) := by
        intro M_26 H locs X ls hl h1
        unfold b_X8_next_26 at h1
        refine lv_aload_n hx hb dX8_next_26 rfl (lv_at hl 0 rfl) ?_
        refine lv_dup hx hb dX8_next_27 rfl ?_
        refine g_modi K X 14 (by decide) (fun _ _ => rfl) q1413 dX8_next_28 ?_
        refine lv_iconst (v := 1) hx hb dX8_next_31 (by decide) ?_
        refine lv_iadd hx hb dX8_next_32 ?_
        obtain ⟨Mv3, eMv3, h1⟩ := lt_out h1
        refine p_modi (ty := .int) K X 14 (by decide) (fun _ _ => rfl) (by decide +kernel) ⟨rfl, rfl⟩ eMv3 q1413 dX8_next_33 (fun H locs X => ?_)
        refine lv_goto (tgt := 0) hx hb dX8_next_36 (by decide) ?_
        exact ih1 Mv3 H locs X ls (lv_sub hl [0] rfl) (wl_l h1 hx1)
      refine lv_aload_n hx hb dX8_next_0 rfl (lv_at hl 0 rfl) ?_
      refine lv_aload_n hx hb dX8_next_1 rfl (lv_at hl 0 rfl) ?_
      refine g_modi K X 14 (by decide) (fun _ _ => rfl) q1413 dX8_next_2 ?_
      obtain ⟨x1, ex1, h1⟩ := ob_out h1
      have kx1 := m_X8_byteAt l D ca am Mz_0 xs (Mz_0.1 0 14) x1 ex1 H.size
      refine w_callV0 K X wM_fstx kx1 hl.1 1 q1529 q1531 q26 q97 q1532 hv_X8_byteAt ⟨⟨Nat.le_of_ble_eq_true rfl, Nat.le_of_ble_eq_true rfl⟩, rfl, rfl⟩ pl_modo rfl rfl rfl rfl (Nat.le_of_ble_eq_true rfl) dX8_next_5 ⟨Nat.le_of_ble_eq_true rfl, Nat.le_of_ble_eq_true rfl⟩ rfl (fun H locs X => ?_)
      refine lv_bipush (v := 32) hx hb dX8_next_8 (by decide) ?_
      refine lv_icmp_eq (tgt := 26) hx hb dX8_next_10 (by decide) (fun c2 => ?_) (fun c2 => ?_)
      · have h1 := if_t c2 h1
        exact J26 Mz_0 H locs X ls (lv_sub hl [0] rfl) h1
      · have h1 := if_f c2 h1
        refine lv_aload_n hx hb dX8_next_13 rfl (lv_at hl 0 rfl) ?_
        refine lv_aload_n hx hb dX8_next_14 rfl (lv_at hl 0 rfl) ?_
        refine g_modi K X 14 (by decide) (fun _ _ => rfl) q1413 dX8_next_15 ?_
        obtain ⟨x4, ex4, h1⟩ := ob_out h1
        have kx4 := m_X8_byteAt l D ca am Mz_0 xs (Mz_0.1 0 14) x4 ex4 H.size
        refine w_callV0 K X wM_fstx kx4 hl.1 1 q1529 q1531 q26 q97 q1532 hv_X8_byteAt ⟨⟨Nat.le_of_ble_eq_true rfl, Nat.le_of_ble_eq_true rfl⟩, rfl, rfl⟩ pl_modo rfl rfl rfl rfl (Nat.le_of_ble_eq_true rfl) dX8_next_18 ⟨Nat.le_of_ble_eq_true rfl, Nat.le_of_ble_eq_true rfl⟩ rfl (fun H locs X => ?_)
        refine lv_bipush (v := 10) hx hb dX8_next_21 (by decide) ?_
        refine lv_icmp_ne (tgt := 39) hx hb dX8_next_23 (by decide) (fun c5 => ?_) (fun c5 => ?_)
        · have h1 := if_f c5 h1
          have q1 := wl_r h1 hx1
          exact J39 Mz_0 H locs X ls (lv_sub hl [0] rfl) (by rw [q1] at h0; exact h0)
        · have h1 := if_t c5 h1
          exact J26 Mz_0 H locs X ls (lv_sub hl [0] rfl) h1
  exact K0 n M H locs X ls (lv_sub hl [0] rfl) he1
-- X8_starts
def f_X8_starts (n : Nat) (M : RowS) (a1 : Int32) : Option RowS :=
  lt (si M 0 13 a1) fun Mv1 =>
  lt (si Mv1 0 12 0) fun Mv2 =>
  lt (si Mv2 0 14 0) fun Mv3 =>
  lt (si Mv3 0 19 0) fun Mv4 =>
  lt (si Mv4 0 20 (-1)) fun Mv5 =>
  ob (f_X8_next n Mv5) fun x6 =>
  lt (x6) fun Mv7 =>
  some Mv7
abbrev rm_X8_starts : Room := { frames := 3, cells := 0, slots := 0, locals := 61 }
set_option maxRecDepth 100000 in
set_option maxHeartbeats 4000000 in
theorem m_X8_starts (l : Launch) (D : va_G) (ca : Nat → ClassId) (am : Nat → Nat) (n : Nat) (M : RowS) (xs : va_W) (a1 : Int32) (M' : RowS) (h0 : f_X8_starts n M a1 = some M') (sz : Nat) : Met l yX8_starts (ws_ yX8_starts cX8_starts 2 none) rm_X8_starts (PCw D ca (wM am ca M ++ xs) sz [.ref (am 0), .int a1]) (QMw D (wM am ca M ++ xs) (wM am ca (M') ++ xs) sz none) 0 0 (AL (wM am ca M ++ xs) sz) := by
  refine met_of (by decide) (Nat.le_of_ble_eq_true rfl) (fun p e s m args below meth c K hr0 X hsz ls hl => ?_)
  have K : MC D ca p s m args meth c cX8_starts 2 RX8 := K
  have hx := K.1
  have hb := K.2.1
  have hl : lv_has ls 2 [(0, .ref (am 0)), (1, .int a1)] := hl
  generalize hQ : MQ below _ args s 0 0 _ = Q
  unfold f_X8_starts at h0
  suffices Z : ∀ (H : Heap) (locs : List Loc) (X : RW D (wM am ca M ++ xs) s.heap H locs), W p l e rm_X8_starts s m args below meth c H locs 0 0 Q (F0 m 0 ls []) from Z _ _ X
  intro H locs X
  refine lv_aload_n hx hb dX8_starts_0 rfl (lv_at hl 0 rfl) ?_
  refine lv_iload_n hx hb dX8_starts_1 rfl (lv_at hl 1 rfl) ?_
  obtain ⟨Mv1, eMv1, h0⟩ := lt_out h0
  refine p_modi (ty := .int) K X 13 (by decide) (fun _ _ => rfl) (by decide +kernel) ⟨rfl, rfl⟩ eMv1 q1412 dX8_starts_2 (fun H locs X => ?_)
  refine lv_aload_n hx hb dX8_starts_5 rfl (lv_at hl 0 rfl) ?_
  refine lv_iconst (v := 0) hx hb dX8_starts_6 (by decide) ?_
  obtain ⟨Mv2, eMv2, h0⟩ := lt_out h0
  refine p_modi (ty := .int) K X 12 (by decide) (fun _ _ => rfl) (by decide +kernel) ⟨rfl, rfl⟩ eMv2 q1411 dX8_starts_7 (fun H locs X => ?_)
  refine lv_aload_n hx hb dX8_starts_10 rfl (lv_at hl 0 rfl) ?_
  refine lv_iconst (v := 0) hx hb dX8_starts_11 (by decide) ?_
  obtain ⟨Mv3, eMv3, h0⟩ := lt_out h0
  refine p_modi (ty := .int) K X 14 (by decide) (fun _ _ => rfl) (by decide +kernel) ⟨rfl, rfl⟩ eMv3 q1413 dX8_starts_12 (fun H locs X => ?_)
  refine lv_aload_n hx hb dX8_starts_15 rfl (lv_at hl 0 rfl) ?_
  refine lv_iconst (v := 0) hx hb dX8_starts_16 (by decide) ?_
  obtain ⟨Mv4, eMv4, h0⟩ := lt_out h0
  refine p_modi (ty := .int) K X 19 (by decide) (fun _ _ => rfl) (by decide +kernel) ⟨rfl, rfl⟩ eMv4 q1418 dX8_starts_17 (fun H locs X => ?_)
  refine lv_aload_n hx hb dX8_starts_20 rfl (lv_at hl 0 rfl) ?_
  refine lv_iconst (v := (-1)) hx hb dX8_starts_21 (by decide) ?_
  obtain ⟨Mv5, eMv5, h0⟩ := lt_out h0
  refine p_modi (ty := .int) K X 20 (by decide) (fun _ _ => rfl) (by decide +kernel) ⟨rfl, rfl⟩ eMv5 q1419 dX8_starts_22 (fun H locs X => ?_)
  refine lv_aload_n hx hb dX8_starts_25 rfl (lv_at hl 0 rfl) ?_
  obtain ⟨x6, ex6, h0⟩ := ob_out h0
  obtain ⟨Mv7, eMv7, h0⟩ := lt_out h0
  have kx6 := m_X8_next l D ca am n Mv5 xs x6 ex6 H.size
  rw [← eMv7] at kx6
  refine w_callV0 K X wM_fstx kx6 hl.1 0 q1525 q1527 q25 q97 q1528 hv_X8_next ⟨⟨Nat.le_of_ble_eq_true rfl, Nat.le_of_ble_eq_true rfl⟩, rfl, rfl⟩ pl_modo rfl rfl rfl rfl (Nat.le_of_ble_eq_true rfl) dX8_starts_26 ⟨Nat.le_of_ble_eq_true rfl, Nat.le_of_ble_eq_true rfl⟩ rfl (fun H locs X => ?_)
  have h0 := Option.some.inj h0
  subst h0
  subst hQ
  exact w_vret K hr0 X wM_fstx hsz dX8_starts_29
-- X8_wrongs
def f_X8_wrongs (M : RowS) (a1 : Int32) : (Bool × RowS) :=
  if (M.1 0 19) = 0 then
    lt (si M 0 19 a1) fun Mv2 =>
    lt (si Mv2 0 20 (Mv2.1 0 15)) fun Mv3 =>
    (false, Mv3)
  else
    (false, M)
abbrev rm_X8_wrongs : Room := { frames := 0, cells := 0, slots := 0, locals := 0 }
set_option maxRecDepth 100000 in
set_option maxHeartbeats 4000000 in
theorem m_X8_wrongs (l : Launch) (D : va_G) (ca : Nat → ClassId) (am : Nat → Nat) (M : RowS) (xs : va_W) (a1 : Int32) (res : Bool) (M' : RowS) (h0 : f_X8_wrongs M a1 = (res, M')) (sz : Nat) : Met l yX8_wrongs (ws_ yX8_wrongs cX8_wrongs 2 (some .boolean)) rm_X8_wrongs (PCw D ca (wM am ca M ++ xs) sz [.ref (am 0), .int a1]) (QMw D (wM am ca M ++ xs) (wM am ca (M') ++ xs) sz (some (.int (b2i res)))) 0 0 (AL (wM am ca M ++ xs) sz) := by
  refine met_of (by decide) (Nat.le_of_ble_eq_true rfl) (fun p e s m args below meth c K hr0 X hsz ls hl => ?_)
  have K : MC D ca p s m args meth c cX8_wrongs 2 RX8 := K
  have hx := K.1
  have hb := K.2.1
  have hl : lv_has ls 2 [(0, .ref (am 0)), (1, .int a1)] := hl
  generalize hQ : MQ below _ args s 0 0 _ = Q
  unfold f_X8_wrongs at h0
  suffices Z : ∀ (H : Heap) (locs : List Loc) (X : RW D (wM am ca M ++ xs) s.heap H locs), W p l e rm_X8_wrongs s m args below meth c H locs 0 0 Q (F0 m 0 ls []) from Z _ _ X
  intro H locs X
  refine lv_aload_n hx hb dX8_wrongs_0 rfl (lv_at hl 0 rfl) ?_
  refine g_modi K X 19 (by decide) (fun _ _ => rfl) q1418 dX8_wrongs_1 ?_
  refine lv_if_ne (tgt := 20) hx hb dX8_wrongs_4 (by decide) (fun c1 => ?_) (fun c1 => ?_)
  · have h0 := if_f c1 h0
    refine lv_iconst (v := 0) hx hb dX8_wrongs_20 (by decide) ?_
    obtain ⟨q_0, q_1⟩ := Prod.mk.inj h0
    subst q_0
    subst q_1
    subst hQ
    refine w_int (y := b2i false) (by decide) ?_
    exact w_zret K hr0 X wM_fstx hsz (b2i_nar _) dX8_wrongs_21
  · have h0 := if_t c1 h0
    refine lv_aload_n hx hb dX8_wrongs_7 rfl (lv_at hl 0 rfl) ?_
    refine lv_iload_n hx hb dX8_wrongs_8 rfl (lv_at hl 1 rfl) ?_
    obtain ⟨Mv2, eMv2, h0⟩ := lt_out h0
    refine p_modi (ty := .int) K X 19 (by decide) (fun _ _ => rfl) (by decide +kernel) ⟨rfl, rfl⟩ eMv2 q1418 dX8_wrongs_9 (fun H locs X => ?_)
    refine lv_aload_n hx hb dX8_wrongs_12 rfl (lv_at hl 0 rfl) ?_
    refine lv_aload_n hx hb dX8_wrongs_13 rfl (lv_at hl 0 rfl) ?_
    refine g_modi K X 15 (by decide) (fun _ _ => rfl) q1414 dX8_wrongs_14 ?_
    obtain ⟨Mv3, eMv3, h0⟩ := lt_out h0
    refine p_modi (ty := .int) K X 20 (by decide) (fun _ _ => rfl) (by decide +kernel) ⟨rfl, rfl⟩ eMv3 q1419 dX8_wrongs_17 (fun H locs X => ?_)
    refine lv_iconst (v := 0) hx hb dX8_wrongs_20 (by decide) ?_
    obtain ⟨q_0, q_1⟩ := Prod.mk.inj h0
    subst q_0
    subst q_1
    subst hQ
    refine w_int (y := b2i false) (by decide) ?_
    exact w_zret K hr0 X wM_fstx hsz (b2i_nar _) dX8_wrongs_21
-- X8_isGood
def f_X8_isGood (M : RowS) : Bool :=
  if (M.1 0 19) = 0 then
    true
  else
    false
abbrev rm_X8_isGood : Room := { frames := 0, cells := 0, slots := 0, locals := 0 }
set_option maxRecDepth 100000 in
set_option maxHeartbeats 4000000 in
theorem m_X8_isGood (l : Launch) (D : va_G) (ca : Nat → ClassId) (am : Nat → Nat) (M : RowS) (xs : va_W) (res : Bool) (h0 : f_X8_isGood M = res) (sz : Nat) : Met l yX8_isGood (ws_ yX8_isGood cX8_isGood 1 (some .boolean)) rm_X8_isGood (PCw D ca (wM am ca M ++ xs) sz [.ref (am 0)]) (QMw D (wM am ca M ++ xs) (wM am ca M ++ xs) sz (some (.int (b2i res)))) 0 0 (AL (wM am ca M ++ xs) sz) := by
  refine met_of (by decide) (Nat.le_of_ble_eq_true rfl) (fun p e s m args below meth c K hr0 X hsz ls hl => ?_)
  have K : MC D ca p s m args meth c cX8_isGood 1 RX8 := K
  have hx := K.1
  have hb := K.2.1
  have hl : lv_has ls 1 [(0, .ref (am 0))] := hl
  generalize hQ : MQ below _ args s 0 0 _ = Q
  unfold f_X8_isGood at h0
  suffices Z : ∀ (H : Heap) (locs : List Loc) (X : RW D (wM am ca M ++ xs) s.heap H locs), W p l e rm_X8_isGood s m args below meth c H locs 0 0 Q (F0 m 0 ls []) from Z _ _ X
  intro H locs X
  refine lv_aload_n hx hb dX8_isGood_0 rfl (lv_at hl 0 rfl) ?_
  refine g_modi K X 19 (by decide) (fun _ _ => rfl) q1418 dX8_isGood_1 ?_
  refine lv_if_ne (tgt := 11) hx hb dX8_isGood_4 (by decide) (fun c1 => ?_) (fun c1 => ?_)
  · have h0 := if_f c1 h0
    refine lv_iconst (v := 0) hx hb dX8_isGood_11 (by decide) ?_
    subst h0
    subst hQ
    refine w_int (y := b2i false) (by decide) ?_
    exact w_zret K hr0 X wM_fstx hsz (b2i_nar _) dX8_isGood_12
  · have h0 := if_t c1 h0
    refine lv_iconst (v := 1) hx hb dX8_isGood_7 (by decide) ?_
    refine lv_goto (tgt := 12) hx hb dX8_isGood_8 (by decide) ?_
    subst h0
    subst hQ
    refine w_int (y := b2i true) (by decide) ?_
    exact w_zret K hr0 X wM_fstx hsz (b2i_nar _) dX8_isGood_12
-- X8_isWord
def f_X8_isWord (M : RowS) (a1 : Int64) : Bool :=
  lt (f_X8_isGood M) fun x1 =>
  if x1 = true then
    if (M.1 0 16) = 1 then
      if 10 < ((M.1 0 14) - (M.1 0 15)) then
        false
      else
        if (M.2 0 18) = a1 then
          true
        else
          false
    else
      false
  else
    false
abbrev rm_X8_isWord : Room := { frames := 1, cells := 0, slots := 0, locals := 20 }
set_option maxRecDepth 100000 in
set_option maxHeartbeats 4000000 in
theorem m_X8_isWord (l : Launch) (D : va_G) (ca : Nat → ClassId) (am : Nat → Nat) (M : RowS) (xs : va_W) (a1 : Int64) (res : Bool) (h0 : f_X8_isWord M a1 = res) (sz : Nat) : Met l yX8_isWord (ws_ yX8_isWord cX8_isWord 3 (some .boolean)) rm_X8_isWord (PCw D ca (wM am ca M ++ xs) sz [.ref (am 0), .long a1]) (QMw D (wM am ca M ++ xs) (wM am ca M ++ xs) sz (some (.int (b2i res)))) 0 0 (AL (wM am ca M ++ xs) sz) := by
  refine met_of (by decide) (Nat.le_of_ble_eq_true rfl) (fun p e s m args below meth c K hr0 X hsz ls hl => ?_)
  have K : MC D ca p s m args meth c cX8_isWord 3 RX8 := K
  have hx := K.1
  have hb := K.2.1
  have hl : lv_has ls 3 [(0, .ref (am 0)), (1, .long a1)] := hl
  generalize hQ : MQ below _ args s 0 0 _ = Q
  unfold f_X8_isWord at h0
  suffices Z : ∀ (H : Heap) (locs : List Loc) (X : RW D (wM am ca M ++ xs) s.heap H locs), W p l e rm_X8_isWord s m args below meth c H locs 0 0 Q (F0 m 0 ls []) from Z _ _ X
  intro H locs X
  refine lv_aload_n hx hb dX8_isWord_0 rfl (lv_at hl 0 rfl) ?_
  obtain ⟨x1, ex1, h0⟩ := lt_out h0
  have kx1 := m_X8_isGood l D ca am M xs x1 ex1.symm H.size
  refine w_callV0 K X wM_fstx kx1 hl.1 0 q1563 q1565 q32 q97 q1566 hv_X8_isGood ⟨⟨Nat.le_of_ble_eq_true rfl, Nat.le_of_ble_eq_true rfl⟩, rfl, rfl⟩ pl_modo rfl rfl rfl rfl (Nat.le_of_ble_eq_true rfl) dX8_isWord_1 ⟨Nat.le_of_ble_eq_true rfl, Nat.le_of_ble_eq_true rfl⟩ rfl (fun H locs X => ?_)
  refine w_zeq (tgt := 42) K dX8_isWord_4 (by decide) (fun c2 => ?_) (fun c2 => ?_)
  · have h0 := if_f c2 h0
    refine lv_iconst (v := 0) hx hb dX8_isWord_42 (by decide) ?_
    subst h0
    subst hQ
    refine w_int (y := b2i false) (by decide) ?_
    exact w_zret K hr0 X wM_fstx hsz (b2i_nar _) dX8_isWord_43
  · have h0 := if_t c2 h0
    refine lv_aload_n hx hb dX8_isWord_7 rfl (lv_at hl 0 rfl) ?_
    refine g_modi K X 16 (by decide) (fun _ _ => rfl) q1415 dX8_isWord_8 ?_
    refine lv_iconst (v := 1) hx hb dX8_isWord_11 (by decide) ?_
    refine lv_icmp_ne (tgt := 42) hx hb dX8_isWord_12 (by decide) (fun c3 => ?_) (fun c3 => ?_)
    · have h0 := if_f c3 h0
      refine lv_iconst (v := 0) hx hb dX8_isWord_42 (by decide) ?_
      subst h0
      subst hQ
      refine w_int (y := b2i false) (by decide) ?_
      exact w_zret K hr0 X wM_fstx hsz (b2i_nar _) dX8_isWord_43
    · have h0 := if_t c3 h0
      refine lv_aload_n hx hb dX8_isWord_15 rfl (lv_at hl 0 rfl) ?_
      refine g_modi K X 14 (by decide) (fun _ _ => rfl) q1413 dX8_isWord_16 ?_
      refine lv_aload_n hx hb dX8_isWord_19 rfl (lv_at hl 0 rfl) ?_
      refine g_modi K X 15 (by decide) (fun _ _ => rfl) q1414 dX8_isWord_20 ?_
      refine lv_isub hx hb dX8_isWord_23 ?_
      refine lv_bipush (v := 10) hx hb dX8_isWord_24 (by decide) ?_
      refine lv_icmp_gt (tgt := 42) hx hb dX8_isWord_26 (by decide) (fun c4 => ?_) (fun c4 => ?_)
      · have h0 := if_t c4 h0
        refine lv_iconst (v := 0) hx hb dX8_isWord_42 (by decide) ?_
        subst h0
        subst hQ
        refine w_int (y := b2i false) (by decide) ?_
        exact w_zret K hr0 X wM_fstx hsz (b2i_nar _) dX8_isWord_43
      · have h0 := if_f c4 h0
        refine lv_aload_n hx hb dX8_isWord_29 rfl (lv_at hl 0 rfl) ?_
        refine g_modl K X q1417 dX8_isWord_30 ?_
        refine lv_lload_n hx hb dX8_isWord_33 rfl (lv_at hl 1 rfl) ?_
        refine w_bne (tgt := 42) K dX8_isWord_34 dX8_isWord_35 (by decide) (fun c5 => ?_) (fun c5 => ?_)
        · have h0 := if_f c5 h0
          refine lv_iconst (v := 0) hx hb dX8_isWord_42 (by decide) ?_
          subst h0
          subst hQ
          refine w_int (y := b2i false) (by decide) ?_
          exact w_zret K hr0 X wM_fstx hsz (b2i_nar _) dX8_isWord_43
        · have h0 := if_t c5 h0
          refine lv_iconst (v := 1) hx hb dX8_isWord_38 (by decide) ?_
          refine lv_goto (tgt := 43) hx hb dX8_isWord_39 (by decide) ?_
          subst h0
          subst hQ
          refine w_int (y := b2i true) (by decide) ?_
          exact w_zret K hr0 X wM_fstx hsz (b2i_nar _) dX8_isWord_43
-- X8_passes
def f_X8_passes (n : Nat) (M : RowS) (a1 : Int64) : Option (Bool × RowS) :=
  lt (f_X8_isWord M a1) fun x1 =>
  if x1 = true then
    ob (f_X8_next n M) fun x3 =>
    lt (x3) fun Mv4 =>
    some (true, Mv4)
  else
    some (false, M)
abbrev rm_X8_passes : Room := { frames := 3, cells := 0, slots := 0, locals := 61 }
set_option maxRecDepth 100000 in
set_option maxHeartbeats 4000000 in
theorem m_X8_passes (l : Launch) (D : va_G) (ca : Nat → ClassId) (am : Nat → Nat) (n : Nat) (M : RowS) (xs : va_W) (a1 : Int64) (res : Bool) (M' : RowS) (h0 : f_X8_passes n M a1 = some (res, M')) (sz : Nat) : Met l yX8_passes (ws_ yX8_passes cX8_passes 3 (some .boolean)) rm_X8_passes (PCw D ca (wM am ca M ++ xs) sz [.ref (am 0), .long a1]) (QMw D (wM am ca M ++ xs) (wM am ca (M') ++ xs) sz (some (.int (b2i res)))) 0 0 (AL (wM am ca M ++ xs) sz) := by
  refine met_of (by decide) (Nat.le_of_ble_eq_true rfl) (fun p e s m args below meth c K hr0 X hsz ls hl => ?_)
  have K : MC D ca p s m args meth c cX8_passes 3 RX8 := K
  have hx := K.1
  have hb := K.2.1
  have hl : lv_has ls 3 [(0, .ref (am 0)), (1, .long a1)] := hl
  generalize hQ : MQ below _ args s 0 0 _ = Q
  unfold f_X8_passes at h0
  suffices Z : ∀ (H : Heap) (locs : List Loc) (X : RW D (wM am ca M ++ xs) s.heap H locs), W p l e rm_X8_passes s m args below meth c H locs 0 0 Q (F0 m 0 ls []) from Z _ _ X
  intro H locs X
  refine lv_aload_n hx hb dX8_passes_0 rfl (lv_at hl 0 rfl) ?_
  refine lv_lload_n hx hb dX8_passes_1 rfl (lv_at hl 1 rfl) ?_
  obtain ⟨x1, ex1, h0⟩ := lt_out h0
  have kx1 := m_X8_isWord l D ca am M xs a1 x1 ex1.symm H.size
  refine w_callV0 K X wM_fstx kx1 hl.1 1 q1559 q1561 q31 q97 q1562 hv_X8_isWord ⟨⟨Nat.le_of_ble_eq_true rfl, Nat.le_of_ble_eq_true rfl⟩, rfl, rfl⟩ pl_modo rfl rfl rfl rfl (Nat.le_of_ble_eq_true rfl) dX8_passes_2 ⟨Nat.le_of_ble_eq_true rfl, Nat.le_of_ble_eq_true rfl⟩ rfl (fun H locs X => ?_)
  refine w_zne (tgt := 10) K dX8_passes_5 (by decide) (fun c2 => ?_) (fun c2 => ?_)
  · have h0 := if_t c2 h0
    refine lv_aload_n hx hb dX8_passes_10 rfl (lv_at hl 0 rfl) ?_
    obtain ⟨x3, ex3, h0⟩ := ob_out h0
    obtain ⟨Mv4, eMv4, h0⟩ := lt_out h0
    have kx3 := m_X8_next l D ca am n M xs x3 ex3 H.size
    rw [← eMv4] at kx3
    refine w_callV0 K X wM_fstx kx3 hl.1 0 q1525 q1527 q25 q97 q1528 hv_X8_next ⟨⟨Nat.le_of_ble_eq_true rfl, Nat.le_of_ble_eq_true rfl⟩, rfl, rfl⟩ pl_modo rfl rfl rfl rfl (Nat.le_of_ble_eq_true rfl) dX8_passes_11 ⟨Nat.le_of_ble_eq_true rfl, Nat.le_of_ble_eq_true rfl⟩ rfl (fun H locs X => ?_)
    refine lv_iconst (v := 1) hx hb dX8_passes_14 (by decide) ?_
    have h0 := Option.some.inj h0
    obtain ⟨q_0, q_1⟩ := Prod.mk.inj h0
    subst q_0
    subst q_1
    subst hQ
    refine w_int (y := b2i true) (by decide) ?_
    exact w_zret K hr0 X wM_fstx hsz (b2i_nar _) dX8_passes_15
  · have h0 := if_f c2 h0
    refine lv_iconst (v := 0) hx hb dX8_passes_8 (by decide) ?_
    have h0 := Option.some.inj h0
    obtain ⟨q_0, q_1⟩ := Prod.mk.inj h0
    subst q_0
    subst q_1
    subst hQ
    refine w_int (y := b2i false) (by decide) ?_
    exact w_zret K hr0 X wM_fstx hsz (b2i_nar _) dX8_passes_9
-- X8_isByte
def f_X8_isByte (M : RowS) (a1 : Int32) : Option Bool :=
  lt (f_X8_isGood M) fun x1 =>
  if x1 = true then
    if (M.1 0 16) = 3 then
      if 0 ≤ (M.1 0 15).toInt ∧ (M.1 0 15).toInt < 600 then
        if (M.1 11 (M.1 0 15).toNatClampNeg) = a1 then
          some true
        else
          some false
      else none
    else
      some false
  else
    some false
abbrev rm_X8_isByte : Room := { frames := 1, cells := 0, slots := 0, locals := 20 }
set_option maxRecDepth 100000 in
set_option maxHeartbeats 4000000 in
theorem m_X8_isByte (l : Launch) (D : va_G) (ca : Nat → ClassId) (am : Nat → Nat) (M : RowS) (xs : va_W) (a1 : Int32) (res : Bool) (h0 : f_X8_isByte M a1 = some res) (sz : Nat) : Met l yX8_isByte (ws_ yX8_isByte cX8_isByte 2 (some .boolean)) rm_X8_isByte (PCw D ca (wM am ca M ++ xs) sz [.ref (am 0), .int a1]) (QMw D (wM am ca M ++ xs) (wM am ca M ++ xs) sz (some (.int (b2i res)))) 0 0 (AL (wM am ca M ++ xs) sz) := by
  refine met_of (by decide) (Nat.le_of_ble_eq_true rfl) (fun p e s m args below meth c K hr0 X hsz ls hl => ?_)
  have K : MC D ca p s m args meth c cX8_isByte 2 RX8 := K
  have hx := K.1
  have hb := K.2.1
  have hl : lv_has ls 2 [(0, .ref (am 0)), (1, .int a1)] := hl
  generalize hQ : MQ below _ args s 0 0 _ = Q
  unfold f_X8_isByte at h0
  suffices Z : ∀ (H : Heap) (locs : List Loc) (X : RW D (wM am ca M ++ xs) s.heap H locs), W p l e rm_X8_isByte s m args below meth c H locs 0 0 Q (F0 m 0 ls []) from Z _ _ X
  intro H locs X
  refine lv_aload_n hx hb dX8_isByte_0 rfl (lv_at hl 0 rfl) ?_
  obtain ⟨x1, ex1, h0⟩ := lt_out h0
  have kx1 := m_X8_isGood l D ca am M xs x1 ex1.symm H.size
  refine w_callV0 K X wM_fstx kx1 hl.1 0 q1563 q1565 q32 q97 q1566 hv_X8_isGood ⟨⟨Nat.le_of_ble_eq_true rfl, Nat.le_of_ble_eq_true rfl⟩, rfl, rfl⟩ pl_modo rfl rfl rfl rfl (Nat.le_of_ble_eq_true rfl) dX8_isByte_1 ⟨Nat.le_of_ble_eq_true rfl, Nat.le_of_ble_eq_true rfl⟩ rfl (fun H locs X => ?_)
  refine w_zeq (tgt := 32) K dX8_isByte_4 (by decide) (fun c2 => ?_) (fun c2 => ?_)
  · have h0 := if_f c2 h0
    refine lv_iconst (v := 0) hx hb dX8_isByte_32 (by decide) ?_
    have h0 := Option.some.inj h0
    subst h0
    subst hQ
    refine w_int (y := b2i false) (by decide) ?_
    exact w_zret K hr0 X wM_fstx hsz (b2i_nar _) dX8_isByte_33
  · have h0 := if_t c2 h0
    refine lv_aload_n hx hb dX8_isByte_7 rfl (lv_at hl 0 rfl) ?_
    refine g_modi K X 16 (by decide) (fun _ _ => rfl) q1415 dX8_isByte_8 ?_
    refine lv_iconst (v := 3) hx hb dX8_isByte_11 (by decide) ?_
    refine lv_icmp_ne (tgt := 32) hx hb dX8_isByte_12 (by decide) (fun c3 => ?_) (fun c3 => ?_)
    · have h0 := if_f c3 h0
      refine lv_iconst (v := 0) hx hb dX8_isByte_32 (by decide) ?_
      have h0 := Option.some.inj h0
      subst h0
      subst hQ
      refine w_int (y := b2i false) (by decide) ?_
      exact w_zret K hr0 X wM_fstx hsz (b2i_nar _) dX8_isByte_33
    · have h0 := if_t c3 h0
      refine lv_aload_n hx hb dX8_isByte_15 rfl (lv_at hl 0 rfl) ?_
      refine g_modr K X 11 (by decide) (fun _ _ => rfl) q1410 dX8_isByte_16 ?_
      refine lv_aload_n hx hb dX8_isByte_19 rfl (lv_at hl 0 rfl) ?_
      refine g_modi K X 15 (by decide) (fun _ _ => rfl) q1414 dX8_isByte_20 ?_
      obtain ⟨c4, h0⟩ := if_o h0
      refine a_modi K X 11 9 600 rfl rfl (inb_vp c4) dX8_isByte_23 ?_
      refine lv_iload_n hx hb dX8_isByte_24 rfl (lv_at hl 1 rfl) ?_
      refine lv_icmp_ne (tgt := 32) hx hb dX8_isByte_25 (by decide) (fun c5 => ?_) (fun c5 => ?_)
      · have h0 := if_f c5 h0
        refine lv_iconst (v := 0) hx hb dX8_isByte_32 (by decide) ?_
        have h0 := Option.some.inj h0
        subst h0
        subst hQ
        refine w_int (y := b2i false) (by decide) ?_
        exact w_zret K hr0 X wM_fstx hsz (b2i_nar _) dX8_isByte_33
      · have h0 := if_t c5 h0
        refine lv_iconst (v := 1) hx hb dX8_isByte_28 (by decide) ?_
        refine lv_goto (tgt := 33) hx hb dX8_isByte_29 (by decide) ?_
        have h0 := Option.some.inj h0
        subst h0
        subst hQ
        refine w_int (y := b2i true) (by decide) ?_
        exact w_zret K hr0 X wM_fstx hsz (b2i_nar _) dX8_isByte_33
-- X8_must
def f_X8_must (n : Nat) (M : RowS) (a1 : Int32) : Option RowS :=
  lt (f_X8_isGood M) fun x1 =>
  if x1 = true then
    ob (f_X8_isByte M a1) fun x3 =>
    if x3 = true then
      ob (f_X8_next n M) fun x7 =>
      lt (x7) fun Mv8 =>
      some Mv8
    else
      lt (f_X8_wrongs M 1) fun x5 =>
      lt (x5.2) fun Mv6 =>
      some Mv6
  else
    some M
abbrev rm_X8_must : Room := { frames := 3, cells := 0, slots := 0, locals := 61 }
set_option maxRecDepth 100000 in
set_option maxHeartbeats 4000000 in
theorem m_X8_must (l : Launch) (D : va_G) (ca : Nat → ClassId) (am : Nat → Nat) (n : Nat) (M : RowS) (xs : va_W) (a1 : Int32) (M' : RowS) (h0 : f_X8_must n M a1 = some M') (sz : Nat) : Met l yX8_must (ws_ yX8_must cX8_must 2 none) rm_X8_must (PCw D ca (wM am ca M ++ xs) sz [.ref (am 0), .int a1]) (QMw D (wM am ca M ++ xs) (wM am ca (M') ++ xs) sz none) 0 0 (AL (wM am ca M ++ xs) sz) := by
  refine met_of (by decide) (Nat.le_of_ble_eq_true rfl) (fun p e s m args below meth c K hr0 X hsz ls hl => ?_)
  have K : MC D ca p s m args meth c cX8_must 2 RX8 := K
  have hx := K.1
  have hb := K.2.1
  have hl : lv_has ls 2 [(0, .ref (am 0)), (1, .int a1)] := hl
  generalize hQ : MQ below _ args s 0 0 _ = Q
  unfold f_X8_must at h0
  suffices Z : ∀ (H : Heap) (locs : List Loc) (X : RW D (wM am ca M ++ xs) s.heap H locs), W p l e rm_X8_must s m args below meth c H locs 0 0 Q (F0 m 0 ls []) from Z _ _ X
  intro H locs X
  refine lv_aload_n hx hb dX8_must_0 rfl (lv_at hl 0 rfl) ?_
  obtain ⟨x1, ex1, h0⟩ := lt_out h0
  have kx1 := m_X8_isGood l D ca am M xs x1 ex1.symm H.size
  refine w_callV0 K X wM_fstx kx1 hl.1 0 q1563 q1565 q32 q97 q1566 hv_X8_isGood ⟨⟨Nat.le_of_ble_eq_true rfl, Nat.le_of_ble_eq_true rfl⟩, rfl, rfl⟩ pl_modo rfl rfl rfl rfl (Nat.le_of_ble_eq_true rfl) dX8_must_1 ⟨Nat.le_of_ble_eq_true rfl, Nat.le_of_ble_eq_true rfl⟩ rfl (fun H locs X => ?_)
  refine w_zne (tgt := 8) K dX8_must_4 (by decide) (fun c2 => ?_) (fun c2 => ?_)
  · have h0 := if_t c2 h0
    refine lv_aload_n hx hb dX8_must_8 rfl (lv_at hl 0 rfl) ?_
    refine lv_iload_n hx hb dX8_must_9 rfl (lv_at hl 1 rfl) ?_
    obtain ⟨x3, ex3, h0⟩ := ob_out h0
    have kx3 := m_X8_isByte l D ca am M xs a1 x3 ex3 H.size
    refine w_callV0 K X wM_fstx kx3 hl.1 1 q1580 q1582 q36 q97 q1583 hv_X8_isByte ⟨⟨Nat.le_of_ble_eq_true rfl, Nat.le_of_ble_eq_true rfl⟩, rfl, rfl⟩ pl_modo rfl rfl rfl rfl (Nat.le_of_ble_eq_true rfl) dX8_must_10 ⟨Nat.le_of_ble_eq_true rfl, Nat.le_of_ble_eq_true rfl⟩ rfl (fun H locs X => ?_)
    refine w_zeq (tgt := 23) K dX8_must_13 (by decide) (fun c4 => ?_) (fun c4 => ?_)
    · have h0 := if_f c4 h0
      refine lv_aload_n hx hb dX8_must_23 rfl (lv_at hl 0 rfl) ?_
      refine lv_iconst (v := 1) hx hb dX8_must_24 (by decide) ?_
      obtain ⟨x5, ex5, h0⟩ := lt_out h0
      obtain ⟨Mv6, eMv6, h0⟩ := lt_out h0
      have kx5 := m_X8_wrongs l D ca am M xs 1 x5.1 x5.2 ex5.symm H.size
      rw [← eMv6] at kx5
      refine w_callV0 K X wM_fstx kx5 hl.1 1 q1567 q1569 q33 q97 q1570 hv_X8_wrongs ⟨⟨Nat.le_of_ble_eq_true rfl, Nat.le_of_ble_eq_true rfl⟩, rfl, rfl⟩ pl_modo rfl rfl rfl rfl (Nat.le_of_ble_eq_true rfl) dX8_must_25 ⟨Nat.le_of_ble_eq_true rfl, Nat.le_of_ble_eq_true rfl⟩ rfl (fun H locs X => ?_)
      refine lv_pop hx hb dX8_must_28 rfl ?_
      have h0 := Option.some.inj h0
      subst h0
      subst hQ
      exact w_vret K hr0 X wM_fstx hsz dX8_must_29
    · have h0 := if_t c4 h0
      refine lv_aload_n hx hb dX8_must_16 rfl (lv_at hl 0 rfl) ?_
      obtain ⟨x7, ex7, h0⟩ := ob_out h0
      obtain ⟨Mv8, eMv8, h0⟩ := lt_out h0
      have kx7 := m_X8_next l D ca am n M xs x7 ex7 H.size
      rw [← eMv8] at kx7
      refine w_callV0 K X wM_fstx kx7 hl.1 0 q1525 q1527 q25 q97 q1528 hv_X8_next ⟨⟨Nat.le_of_ble_eq_true rfl, Nat.le_of_ble_eq_true rfl⟩, rfl, rfl⟩ pl_modo rfl rfl rfl rfl (Nat.le_of_ble_eq_true rfl) dX8_must_17 ⟨Nat.le_of_ble_eq_true rfl, Nat.le_of_ble_eq_true rfl⟩ rfl (fun H locs X => ?_)
      refine lv_goto (tgt := 29) hx hb dX8_must_20 (by decide) ?_
      have h0 := Option.some.inj h0
      subst h0
      subst hQ
      exact w_vret K hr0 X wM_fstx hsz dX8_must_29
  · have h0 := if_f c2 h0
    have h0 := Option.some.inj h0
    subst h0
    subst hQ
    exact w_vret K hr0 X wM_fstx hsz dX8_must_7
-- X8_number
def b_X8_number_47 (n : Nat) (a1 : Int32) (M_47 : RowS) : Option (Int32 × RowS) :=
  lt (f_X8_isGood M_47) fun x6 =>
  if x6 = true then
    lt (M_47.1 0 17) fun x8 =>
    ob (f_X8_next n M_47) fun x9 =>
    lt (x9) fun Mv10 =>
    some (x8, Mv10)
  else
    some (a1, M_47)
def f_X8_number (n : Nat) (M : RowS) (a1 : Int32) (a2 : Int32) : Option (Int32 × RowS) :=
  lt (f_X8_isGood M) fun x1 =>
  if x1 = true then
    if (M.1 0 16) = 2 then
      lt (f_X8_in ((M.1 0 17).toInt64) a1.toInt64 a2.toInt64) fun x4 =>
      if x4 = true then
        b_X8_number_47 n a1 M
      else
        lt (f_X8_wrongs M 2) fun x11 =>
        lt (x11.2) fun Mv12 =>
        b_X8_number_47 n a1 Mv12
    else
      lt (f_X8_wrongs M 1) fun x13 =>
      lt (x13.2) fun Mv14 =>
      b_X8_number_47 n a1 Mv14
  else
    some (a1, M)
abbrev rm_X8_number : Room := { frames := 3, cells := 0, slots := 0, locals := 61 }
set_option maxRecDepth 100000 in
set_option maxHeartbeats 4000000 in
theorem m_X8_number (l : Launch) (D : va_G) (ca : Nat → ClassId) (am : Nat → Nat) (n : Nat) (M : RowS) (xs : va_W) (a1 : Int32) (a2 : Int32) (res : Int32) (M' : RowS) (h0 : f_X8_number n M a1 a2 = some (res, M')) (sz : Nat) : Met l yX8_number (ws_ yX8_number cX8_number 4 (some .int)) rm_X8_number (PCw D ca (wM am ca M ++ xs) sz [.ref (am 0), .int a1, .int a2]) (QMw D (wM am ca M ++ xs) (wM am ca (M') ++ xs) sz (some (.int res))) 0 0 (AL (wM am ca M ++ xs) sz) := by
  refine met_of (by decide) (Nat.le_of_ble_eq_true rfl) (fun p e s m args below meth c K hr0 X hsz ls hl => ?_)
  have K : MC D ca p s m args meth c cX8_number 4 RX8 := K
  have hx := K.1
  have hb := K.2.1
  have hl : lv_has ls 4 [(0, .ref (am 0)), (1, .int a1), (2, .int a2)] := hl
  generalize hQ : MQ below _ args s 0 0 _ = Q
  unfold f_X8_number at h0
  suffices Z : ∀ (H : Heap) (locs : List Loc) (X : RW D (wM am ca M ++ xs) s.heap H locs), W p l e rm_X8_number s m args below meth c H locs 0 0 Q (F0 m 0 ls []) from Z _ _ X
  intro H locs X
  have J47 : ∀ (M_47 : RowS) (H : Heap) (locs : List Loc) (X : RW D (wM am ca M_47 ++ xs) s.heap H locs) (ls : Array Slot) (hl : lv_has ls 4 [(0, .ref (am 0)), (1, .int a1)]) (h0 : b_X8_number_47 n a1 M_47 = some (res, M')), W p l e rm_X8_number s m args below meth c H locs 0 0 Q (F0 m 47 ls []) := by
    intro M_47 H locs X ls hl h0
    unfold b_X8_number_47 at h0
    refine lv_aload_n hx hb dX8_number_47 rfl (lv_at hl 0 rfl) ?_
    obtain ⟨x6, ex6, h0⟩ := lt_out h0
    have kx6 := m_X8_isGood l D ca am M_47 xs x6 ex6.symm H.size
    refine w_callV0 K X wM_fstx kx6 hl.1 0 q1563 q1565 q32 q97 q1566 hv_X8_isGood ⟨⟨Nat.le_of_ble_eq_true rfl, Nat.le_of_ble_eq_true rfl⟩, rfl, rfl⟩ pl_modo rfl rfl rfl rfl (Nat.le_of_ble_eq_true rfl) dX8_number_48 ⟨Nat.le_of_ble_eq_true rfl, Nat.le_of_ble_eq_true rfl⟩ rfl (fun H locs X => ?_)
    refine w_zne (tgt := 56) K dX8_number_51 (by decide) (fun c7 => ?_) (fun c7 => ?_)
    · have h0 := if_t c7 h0
      refine lv_aload_n hx hb dX8_number_56 rfl (lv_at hl 0 rfl) ?_
      refine g_modi K X 17 (by decide) (fun _ _ => rfl) q1416 dX8_number_57 ?_
      obtain ⟨x8, ex8, h0⟩ := lt_out h0
      refine w_int ex8 ?_
      refine lv_istore_n (lv' := [(3, .int x8), (0, .ref (am 0)), (1, .int a1)]) hx hb dX8_number_60 rfl hl (by decide) rfl (fun ls hl => ?_)
      refine lv_aload_n hx hb dX8_number_61 rfl (lv_at hl 1 rfl) ?_
      obtain ⟨x9, ex9, h0⟩ := ob_out h0
      obtain ⟨Mv10, eMv10, h0⟩ := lt_out h0
      have kx9 := m_X8_next l D ca am n M_47 xs x9 ex9 H.size
      rw [← eMv10] at kx9
      refine w_callV0 K X wM_fstx kx9 hl.1 0 q1525 q1527 q25 q97 q1528 hv_X8_next ⟨⟨Nat.le_of_ble_eq_true rfl, Nat.le_of_ble_eq_true rfl⟩, rfl, rfl⟩ pl_modo rfl rfl rfl rfl (Nat.le_of_ble_eq_true rfl) dX8_number_62 ⟨Nat.le_of_ble_eq_true rfl, Nat.le_of_ble_eq_true rfl⟩ rfl (fun H locs X => ?_)
      refine lv_iload_n hx hb dX8_number_65 rfl (lv_at hl 0 rfl) ?_
      have h0 := Option.some.inj h0
      obtain ⟨q_0, q_1⟩ := Prod.mk.inj h0
      subst q_0
      subst q_1
      subst hQ
      exact w_iret K hr0 X wM_fstx hsz dX8_number_66
    · have h0 := if_f c7 h0
      refine lv_iload_n hx hb dX8_number_54 rfl (lv_at hl 1 rfl) ?_
      have h0 := Option.some.inj h0
      obtain ⟨q_0, q_1⟩ := Prod.mk.inj h0
      subst q_0
      subst q_1
      subst hQ
      exact w_iret K hr0 X wM_fstx hsz dX8_number_55
  refine lv_aload_n hx hb dX8_number_0 rfl (lv_at hl 0 rfl) ?_
  obtain ⟨x1, ex1, h0⟩ := lt_out h0
  have kx1 := m_X8_isGood l D ca am M xs x1 ex1.symm H.size
  refine w_callV0 K X wM_fstx kx1 hl.1 0 q1563 q1565 q32 q97 q1566 hv_X8_isGood ⟨⟨Nat.le_of_ble_eq_true rfl, Nat.le_of_ble_eq_true rfl⟩, rfl, rfl⟩ pl_modo rfl rfl rfl rfl (Nat.le_of_ble_eq_true rfl) dX8_number_1 ⟨Nat.le_of_ble_eq_true rfl, Nat.le_of_ble_eq_true rfl⟩ rfl (fun H locs X => ?_)
  refine w_zne (tgt := 9) K dX8_number_4 (by decide) (fun c2 => ?_) (fun c2 => ?_)
  · have h0 := if_t c2 h0
    refine lv_aload_n hx hb dX8_number_9 rfl (lv_at hl 0 rfl) ?_
    refine g_modi K X 16 (by decide) (fun _ _ => rfl) q1415 dX8_number_10 ?_
    refine lv_iconst (v := 2) hx hb dX8_number_13 (by decide) ?_
    refine lv_icmp_eq (tgt := 26) hx hb dX8_number_14 (by decide) (fun c3 => ?_) (fun c3 => ?_)
    · have h0 := if_t c3 h0
      refine lv_aload_n hx hb dX8_number_26 rfl (lv_at hl 0 rfl) ?_
      refine g_modi K X 17 (by decide) (fun _ _ => rfl) q1416 dX8_number_27 ?_
      refine lv_i2l hx hb dX8_number_30 rfl ?_
      refine lv_iload_n hx hb dX8_number_31 rfl (lv_at hl 1 rfl) ?_
      refine lv_i2l hx hb dX8_number_32 rfl ?_
      refine lv_iload_n hx hb dX8_number_33 rfl (lv_at hl 2 rfl) ?_
      refine lv_i2l hx hb dX8_number_34 rfl ?_
      obtain ⟨x4, ex4, h0⟩ := lt_out h0
      have kx4 := m_X8_in l D ca (wM am ca M ++ xs) ((M.1 0 17).toInt64) a1.toInt64 a2.toInt64 x4 ex4.symm H.size
      refine w_callS0 K X wM_fstx kx4 hl.1 3 q1504 q1505 q97 q1506 hs_X8_in ⟨⟨Nat.le_of_ble_eq_true rfl, Nat.le_of_ble_eq_true rfl⟩, rfl, rfl⟩ rfl rfl (Nat.le_of_ble_eq_true rfl) dX8_number_35 ⟨Nat.le_of_ble_eq_true rfl, Nat.le_of_ble_eq_true rfl⟩ rfl (fun H locs X => ?_)
      refine w_zne (tgt := 47) K dX8_number_38 (by decide) (fun c5 => ?_) (fun c5 => ?_)
      · have h0 := if_t c5 h0
        exact J47 M H locs X ls (lv_sub hl [0, 1] rfl) h0
      · have h0 := if_f c5 h0
        refine lv_aload_n hx hb dX8_number_41 rfl (lv_at hl 0 rfl) ?_
        refine lv_iconst (v := 2) hx hb dX8_number_42 (by decide) ?_
        obtain ⟨x11, ex11, h0⟩ := lt_out h0
        obtain ⟨Mv12, eMv12, h0⟩ := lt_out h0
        have kx11 := m_X8_wrongs l D ca am M xs 2 x11.1 x11.2 ex11.symm H.size
        rw [← eMv12] at kx11
        refine w_callV0 K X wM_fstx kx11 hl.1 1 q1567 q1569 q33 q97 q1570 hv_X8_wrongs ⟨⟨Nat.le_of_ble_eq_true rfl, Nat.le_of_ble_eq_true rfl⟩, rfl, rfl⟩ pl_modo rfl rfl rfl rfl (Nat.le_of_ble_eq_true rfl) dX8_number_43 ⟨Nat.le_of_ble_eq_true rfl, Nat.le_of_ble_eq_true rfl⟩ rfl (fun H locs X => ?_)
        refine lv_pop hx hb dX8_number_46 rfl ?_
        exact J47 Mv12 H locs X ls (lv_sub hl [0, 1] rfl) h0
    · have h0 := if_f c3 h0
      refine lv_aload_n hx hb dX8_number_17 rfl (lv_at hl 0 rfl) ?_
      refine lv_iconst (v := 1) hx hb dX8_number_18 (by decide) ?_
      obtain ⟨x13, ex13, h0⟩ := lt_out h0
      obtain ⟨Mv14, eMv14, h0⟩ := lt_out h0
      have kx13 := m_X8_wrongs l D ca am M xs 1 x13.1 x13.2 ex13.symm H.size
      rw [← eMv14] at kx13
      refine w_callV0 K X wM_fstx kx13 hl.1 1 q1567 q1569 q33 q97 q1570 hv_X8_wrongs ⟨⟨Nat.le_of_ble_eq_true rfl, Nat.le_of_ble_eq_true rfl⟩, rfl, rfl⟩ pl_modo rfl rfl rfl rfl (Nat.le_of_ble_eq_true rfl) dX8_number_19 ⟨Nat.le_of_ble_eq_true rfl, Nat.le_of_ble_eq_true rfl⟩ rfl (fun H locs X => ?_)
      refine lv_pop hx hb dX8_number_22 rfl ?_
      refine lv_goto (tgt := 47) hx hb dX8_number_23 (by decide) ?_
      exact J47 Mv14 H locs X ls (lv_sub hl [0, 1] rfl) h0
  · have h0 := if_f c2 h0
    refine lv_iload_n hx hb dX8_number_7 rfl (lv_at hl 1 rfl) ?_
    have h0 := Option.some.inj h0
    obtain ⟨q_0, q_1⟩ := Prod.mk.inj h0
    subst q_0
    subst q_1
    subst hQ
    exact w_iret K hr0 X wM_fstx hsz dX8_number_8
-- X8_signed
def b_X8_signed_15 (n : Nat) (y15_l1 : Bool) (M_15 : RowS) : Option (Int32 × RowS) :=
  ob (f_X8_number n M_15 0 9999) fun x3 =>
  lt (x3.2) fun Mv4 =>
  lt (x3.1) fun x5 =>
  if y15_l1 = true then
    some ((-x5), Mv4)
  else
    some (x5, Mv4)
def f_X8_signed (n : Nat) (M : RowS) : Option (Int32 × RowS) :=
  ob (f_X8_isByte M 45) fun x1 =>
  if x1 = true then
    ob (f_X8_next n M) fun x7 =>
    lt (x7) fun Mv8 =>
    b_X8_signed_15 n x1 Mv8
  else
    b_X8_signed_15 n x1 M
abbrev rm_X8_signed : Room := { frames := 4, cells := 0, slots := 0, locals := 84 }
set_option maxRecDepth 100000 in
set_option maxHeartbeats 4000000 in
theorem m_X8_signed (l : Launch) (D : va_G) (ca : Nat → ClassId) (am : Nat → Nat) (n : Nat) (M : RowS) (xs : va_W) (res : Int32) (M' : RowS) (h0 : f_X8_signed n M = some (res, M')) (sz : Nat) : Met l yX8_signed (ws_ yX8_signed cX8_signed 3 (some .int)) rm_X8_signed (PCw D ca (wM am ca M ++ xs) sz [.ref (am 0)]) (QMw D (wM am ca M ++ xs) (wM am ca (M') ++ xs) sz (some (.int res))) 0 0 (AL (wM am ca M ++ xs) sz) := by
  refine met_of (by decide) (Nat.le_of_ble_eq_true rfl) (fun p e s m args below meth c K hr0 X hsz ls hl => ?_)
  have K : MC D ca p s m args meth c cX8_signed 3 RX8 := K
  have hx := K.1
  have hb := K.2.1
  have hl : lv_has ls 3 [(0, .ref (am 0))] := hl
  generalize hQ : MQ below _ args s 0 0 _ = Q
  unfold f_X8_signed at h0
  suffices Z : ∀ (H : Heap) (locs : List Loc) (X : RW D (wM am ca M ++ xs) s.heap H locs), W p l e rm_X8_signed s m args below meth c H locs 0 0 Q (F0 m 0 ls []) from Z _ _ X
  intro H locs X
  have J15 : ∀ (y15_l1 : Bool) (M_15 : RowS) (H : Heap) (locs : List Loc) (X : RW D (wM am ca M_15 ++ xs) s.heap H locs) (ls : Array Slot) (hl : lv_has ls 3 [(0, .ref (am 0)), (1, .int (b2i y15_l1))]) (h0 : b_X8_signed_15 n y15_l1 M_15 = some (res, M')), W p l e rm_X8_signed s m args below meth c H locs 0 0 Q (F0 m 15 ls []) := by
    intro y15_l1 M_15 H locs X ls hl h0
    unfold b_X8_signed_15 at h0
    refine lv_aload_n hx hb dX8_signed_15 rfl (lv_at hl 0 rfl) ?_
    refine lv_iconst (v := 0) hx hb dX8_signed_16 (by decide) ?_
    refine lv_sipush (v := 9999) hx hb dX8_signed_17 (by decide) ?_
    obtain ⟨x3, ex3, h0⟩ := ob_out h0
    obtain ⟨Mv4, eMv4, h0⟩ := lt_out h0
    have kx3 := m_X8_number l D ca am n M_15 xs 0 9999 x3.1 x3.2 ex3 H.size
    rw [← eMv4] at kx3
    refine w_callV0 K X wM_fstx kx3 hl.1 2 q1571 q1573 q34 q97 q1574 hv_X8_number ⟨⟨Nat.le_of_ble_eq_true rfl, Nat.le_of_ble_eq_true rfl⟩, rfl, rfl⟩ pl_modo rfl rfl rfl rfl (Nat.le_of_ble_eq_true rfl) dX8_signed_20 ⟨Nat.le_of_ble_eq_true rfl, Nat.le_of_ble_eq_true rfl⟩ rfl (fun H locs X => ?_)
    obtain ⟨x5, ex5, h0⟩ := lt_out h0
    refine w_int ex5 ?_
    refine lv_istore_n (lv' := [(2, .int x5), (0, .ref (am 0)), (1, .int (b2i y15_l1))]) hx hb dX8_signed_23 rfl hl (by decide) rfl (fun ls hl => ?_)
    refine lv_iload_n hx hb dX8_signed_24 rfl (lv_at hl 2 rfl) ?_
    refine w_zeq (tgt := 33) K dX8_signed_25 (by decide) (fun c6 => ?_) (fun c6 => ?_)
    · have h0 := if_f c6 h0
      refine lv_iload_n hx hb dX8_signed_33 rfl (lv_at hl 0 rfl) ?_
      have h0 := Option.some.inj h0
      obtain ⟨q_0, q_1⟩ := Prod.mk.inj h0
      subst q_0
      subst q_1
      subst hQ
      exact w_iret K hr0 X wM_fstx hsz dX8_signed_34
    · have h0 := if_t c6 h0
      refine lv_iload_n hx hb dX8_signed_28 rfl (lv_at hl 0 rfl) ?_
      refine lv_ineg hx hb dX8_signed_29 ?_
      refine lv_goto (tgt := 34) hx hb dX8_signed_30 (by decide) ?_
      have h0 := Option.some.inj h0
      obtain ⟨q_0, q_1⟩ := Prod.mk.inj h0
      subst q_0
      subst q_1
      subst hQ
      exact w_iret K hr0 X wM_fstx hsz dX8_signed_34
  refine lv_aload_n hx hb dX8_signed_0 rfl (lv_at hl 0 rfl) ?_
  refine lv_bipush (v := 45) hx hb dX8_signed_1 (by decide) ?_
  obtain ⟨x1, ex1, h0⟩ := ob_out h0
  have kx1 := m_X8_isByte l D ca am M xs 45 x1 ex1 H.size
  refine w_callV0 K X wM_fstx kx1 hl.1 1 q1580 q1582 q36 q97 q1583 hv_X8_isByte ⟨⟨Nat.le_of_ble_eq_true rfl, Nat.le_of_ble_eq_true rfl⟩, rfl, rfl⟩ pl_modo rfl rfl rfl rfl (Nat.le_of_ble_eq_true rfl) dX8_signed_3 ⟨Nat.le_of_ble_eq_true rfl, Nat.le_of_ble_eq_true rfl⟩ rfl (fun H locs X => ?_)
  refine lv_istore_n (lv' := [(1, .int (b2i x1)), (0, .ref (am 0))]) hx hb dX8_signed_6 rfl hl (by decide) rfl (fun ls hl => ?_)
  refine lv_iload_n hx hb dX8_signed_7 rfl (lv_at hl 0 rfl) ?_
  refine w_zeq (tgt := 15) K dX8_signed_8 (by decide) (fun c2 => ?_) (fun c2 => ?_)
  · have h0 := if_f c2 h0
    exact J15 x1 M H locs X ls (lv_sub hl [1, 0] rfl) h0
  · have h0 := if_t c2 h0
    refine lv_aload_n hx hb dX8_signed_11 rfl (lv_at hl 1 rfl) ?_
    obtain ⟨x7, ex7, h0⟩ := ob_out h0
    obtain ⟨Mv8, eMv8, h0⟩ := lt_out h0
    have kx7 := m_X8_next l D ca am n M xs x7 ex7 H.size
    rw [← eMv8] at kx7
    refine w_callV0 K X wM_fstx kx7 hl.1 0 q1525 q1527 q25 q97 q1528 hv_X8_next ⟨⟨Nat.le_of_ble_eq_true rfl, Nat.le_of_ble_eq_true rfl⟩, rfl, rfl⟩ pl_modo rfl rfl rfl rfl (Nat.le_of_ble_eq_true rfl) dX8_signed_12 ⟨Nat.le_of_ble_eq_true rfl, Nat.le_of_ble_eq_true rfl⟩ rfl (fun H locs X => ?_)
    exact J15 x1 Mv8 H locs X ls (lv_sub hl [1, 0] rfl) h0
-- X8_readsLeg
def f_X8_readsLeg (n : Nat) (M : RowS) : Option RowS :=
  ob (f_X8_number n M 0 1) fun x1 =>
  lt (x1.2) fun Mv2 =>
  lt (x1.1) fun x3 =>
  ob (f_X8_number n Mv2 100 20000) fun x4 =>
  lt (x4.2) fun Mv5 =>
  lt (x4.1) fun x6 =>
  ob (f_X8_number n Mv5 100 99999) fun x7 =>
  lt (x7.2) fun Mv8 =>
  lt (x7.1) fun x9 =>
  ob (f_X8_signed n Mv8) fun x10 =>
  lt (x10.2) fun Mv11 =>
  lt (x10.1) fun x12 =>
  lt (f_X8_isGood Mv11) fun x13 =>
  if x13 = true then
    ob (f_X8_laysLeg Mv11 x3 x6 x9 x12) fun x15 =>
    lt (x15) fun Mv16 =>
    some Mv16
  else
    some Mv11
abbrev rm_X8_readsLeg : Room := { frames := 5, cells := 0, slots := 0, locals := 106 }
set_option maxRecDepth 100000 in
set_option maxHeartbeats 4000000 in
theorem m_X8_readsLeg (l : Launch) (D : va_G) (ca : Nat → ClassId) (am : Nat → Nat) (n : Nat) (M : RowS) (xs : va_W) (M' : RowS) (h0 : f_X8_readsLeg n M = some M') (sz : Nat) : Met l yX8_readsLeg (ws_ yX8_readsLeg cX8_readsLeg 5 none) rm_X8_readsLeg (PCw D ca (wM am ca M ++ xs) sz [.ref (am 0)]) (QMw D (wM am ca M ++ xs) (wM am ca (M') ++ xs) sz none) 0 0 (AL (wM am ca M ++ xs) sz) := by
  refine met_of (by decide) (Nat.le_of_ble_eq_true rfl) (fun p e s m args below meth c K hr0 X hsz ls hl => ?_)
  have K : MC D ca p s m args meth c cX8_readsLeg 5 RX8 := K
  have hx := K.1
  have hb := K.2.1
  have hl : lv_has ls 5 [(0, .ref (am 0))] := hl
  generalize hQ : MQ below _ args s 0 0 _ = Q
  unfold f_X8_readsLeg at h0
  suffices Z : ∀ (H : Heap) (locs : List Loc) (X : RW D (wM am ca M ++ xs) s.heap H locs), W p l e rm_X8_readsLeg s m args below meth c H locs 0 0 Q (F0 m 0 ls []) from Z _ _ X
  intro H locs X
  refine lv_aload_n hx hb dX8_readsLeg_0 rfl (lv_at hl 0 rfl) ?_
  refine lv_iconst (v := 0) hx hb dX8_readsLeg_1 (by decide) ?_
  refine lv_iconst (v := 1) hx hb dX8_readsLeg_2 (by decide) ?_
  obtain ⟨x1, ex1, h0⟩ := ob_out h0
  obtain ⟨Mv2, eMv2, h0⟩ := lt_out h0
  have kx1 := m_X8_number l D ca am n M xs 0 1 x1.1 x1.2 ex1 H.size
  rw [← eMv2] at kx1
  refine w_callV0 K X wM_fstx kx1 hl.1 2 q1571 q1573 q34 q97 q1574 hv_X8_number ⟨⟨Nat.le_of_ble_eq_true rfl, Nat.le_of_ble_eq_true rfl⟩, rfl, rfl⟩ pl_modo rfl rfl rfl rfl (Nat.le_of_ble_eq_true rfl) dX8_readsLeg_3 ⟨Nat.le_of_ble_eq_true rfl, Nat.le_of_ble_eq_true rfl⟩ rfl (fun H locs X => ?_)
  obtain ⟨x3, ex3, h0⟩ := lt_out h0
  refine w_int ex3 ?_
  refine lv_istore_n (lv' := [(1, .int x3), (0, .ref (am 0))]) hx hb dX8_readsLeg_6 rfl hl (by decide) rfl (fun ls hl => ?_)
  refine lv_aload_n hx hb dX8_readsLeg_7 rfl (lv_at hl 1 rfl) ?_
  refine lv_bipush (v := 100) hx hb dX8_readsLeg_8 (by decide) ?_
  refine lv_sipush (v := 20000) hx hb dX8_readsLeg_10 (by decide) ?_
  obtain ⟨x4, ex4, h0⟩ := ob_out h0
  obtain ⟨Mv5, eMv5, h0⟩ := lt_out h0
  have kx4 := m_X8_number l D ca am n Mv2 xs 100 20000 x4.1 x4.2 ex4 H.size
  rw [← eMv5] at kx4
  refine w_callV0 K X wM_fstx kx4 hl.1 2 q1571 q1573 q34 q97 q1574 hv_X8_number ⟨⟨Nat.le_of_ble_eq_true rfl, Nat.le_of_ble_eq_true rfl⟩, rfl, rfl⟩ pl_modo rfl rfl rfl rfl (Nat.le_of_ble_eq_true rfl) dX8_readsLeg_13 ⟨Nat.le_of_ble_eq_true rfl, Nat.le_of_ble_eq_true rfl⟩ rfl (fun H locs X => ?_)
  obtain ⟨x6, ex6, h0⟩ := lt_out h0
  refine w_int ex6 ?_
  refine lv_istore_n (lv' := [(2, .int x6), (1, .int x3), (0, .ref (am 0))]) hx hb dX8_readsLeg_16 rfl hl (by decide) rfl (fun ls hl => ?_)
  refine lv_aload_n hx hb dX8_readsLeg_17 rfl (lv_at hl 2 rfl) ?_
  refine lv_bipush (v := 100) hx hb dX8_readsLeg_18 (by decide) ?_
  refine lv_ldc hx hb K.2.2.2.1 (K.2.2.2.2.1 _ q1575) dX8_readsLeg_20 ?_
  obtain ⟨x7, ex7, h0⟩ := ob_out h0
  obtain ⟨Mv8, eMv8, h0⟩ := lt_out h0
  have kx7 := m_X8_number l D ca am n Mv5 xs 100 99999 x7.1 x7.2 ex7 H.size
  rw [← eMv8] at kx7
  refine w_callV0 K X wM_fstx kx7 hl.1 2 q1571 q1573 q34 q97 q1574 hv_X8_number ⟨⟨Nat.le_of_ble_eq_true rfl, Nat.le_of_ble_eq_true rfl⟩, rfl, rfl⟩ pl_modo rfl rfl rfl rfl (Nat.le_of_ble_eq_true rfl) dX8_readsLeg_22 ⟨Nat.le_of_ble_eq_true rfl, Nat.le_of_ble_eq_true rfl⟩ rfl (fun H locs X => ?_)
  obtain ⟨x9, ex9, h0⟩ := lt_out h0
  refine w_int ex9 ?_
  refine lv_istore_n (lv' := [(3, .int x9), (2, .int x6), (1, .int x3), (0, .ref (am 0))]) hx hb dX8_readsLeg_25 rfl hl (by decide) rfl (fun ls hl => ?_)
  refine lv_aload_n hx hb dX8_readsLeg_26 rfl (lv_at hl 3 rfl) ?_
  obtain ⟨x10, ex10, h0⟩ := ob_out h0
  obtain ⟨Mv11, eMv11, h0⟩ := lt_out h0
  have kx10 := m_X8_signed l D ca am n Mv8 xs x10.1 x10.2 ex10 H.size
  rw [← eMv11] at kx10
  refine w_callV0 K X wM_fstx kx10 hl.1 0 q1590 q1592 q38 q97 q1593 hv_X8_signed ⟨⟨Nat.le_of_ble_eq_true rfl, Nat.le_of_ble_eq_true rfl⟩, rfl, rfl⟩ pl_modo rfl rfl rfl rfl (Nat.le_of_ble_eq_true rfl) dX8_readsLeg_27 ⟨Nat.le_of_ble_eq_true rfl, Nat.le_of_ble_eq_true rfl⟩ rfl (fun H locs X => ?_)
  obtain ⟨x12, ex12, h0⟩ := lt_out h0
  refine w_int ex12 ?_
  refine lv_istore (lv' := [(4, .int x12), (3, .int x9), (2, .int x6), (1, .int x3), (0, .ref (am 0))]) hx hb dX8_readsLeg_30 hl (by decide) rfl (fun ls hl => ?_)
  refine lv_aload_n hx hb dX8_readsLeg_32 rfl (lv_at hl 4 rfl) ?_
  obtain ⟨x13, ex13, h0⟩ := lt_out h0
  have kx13 := m_X8_isGood l D ca am Mv11 xs x13 ex13.symm H.size
  refine w_callV0 K X wM_fstx kx13 hl.1 0 q1563 q1565 q32 q97 q1566 hv_X8_isGood ⟨⟨Nat.le_of_ble_eq_true rfl, Nat.le_of_ble_eq_true rfl⟩, rfl, rfl⟩ pl_modo rfl rfl rfl rfl (Nat.le_of_ble_eq_true rfl) dX8_readsLeg_33 ⟨Nat.le_of_ble_eq_true rfl, Nat.le_of_ble_eq_true rfl⟩ rfl (fun H locs X => ?_)
  refine w_zeq (tgt := 48) K dX8_readsLeg_36 (by decide) (fun c14 => ?_) (fun c14 => ?_)
  · have h0 := if_f c14 h0
    have h0 := Option.some.inj h0
    subst h0
    subst hQ
    exact w_vret K hr0 X wM_fstx hsz dX8_readsLeg_48
  · have h0 := if_t c14 h0
    refine lv_aload_n hx hb dX8_readsLeg_39 rfl (lv_at hl 4 rfl) ?_
    refine lv_iload_n hx hb dX8_readsLeg_40 rfl (lv_at hl 3 rfl) ?_
    refine lv_iload_n hx hb dX8_readsLeg_41 rfl (lv_at hl 2 rfl) ?_
    refine lv_iload_n hx hb dX8_readsLeg_42 rfl (lv_at hl 1 rfl) ?_
    refine lv_iload hx hb dX8_readsLeg_43 (lv_at hl 0 rfl) ?_
    obtain ⟨x15, ex15, h0⟩ := ob_out h0
    obtain ⟨Mv16, eMv16, h0⟩ := lt_out h0
    have kx15 := m_X8_laysLeg l D ca am Mv11 xs x3 x6 x9 x12 x15 ex15 H.size
    rw [← eMv16] at kx15
    refine w_callV0 K X wM_fstx kx15 hl.1 4 q1395 q1397 q20 q97 q1398 hv_X8_laysLeg ⟨⟨Nat.le_of_ble_eq_true rfl, Nat.le_of_ble_eq_true rfl⟩, rfl, rfl⟩ pl_modo rfl rfl rfl rfl (Nat.le_of_ble_eq_true rfl) dX8_readsLeg_45 ⟨Nat.le_of_ble_eq_true rfl, Nat.le_of_ble_eq_true rfl⟩ rfl (fun H locs X => ?_)
    have h0 := Option.some.inj h0
    subst h0
    subst hQ
    exact w_vret K hr0 X wM_fstx hsz dX8_readsLeg_48
-- X8_cell
def f_X8_cell (a1 : Int32) (a2 : Int32) : Int32 :=
  ((18 + (7 * a1)) + a2)
abbrev rm_X8_cell : Room := { frames := 0, cells := 0, slots := 0, locals := 0 }
set_option maxRecDepth 100000 in
set_option maxHeartbeats 4000000 in
theorem m_X8_cell (l : Launch) (D : va_G) (ca : Nat → ClassId) (ws : va_W) (a1 : Int32) (a2 : Int32) (res : Int32) (h0 : f_X8_cell a1 a2 = res) (sz : Nat) : Met l yX8_cell (ws_ yX8_cell cX8_cell 2 (some .int)) rm_X8_cell (PCw D ca (ws) sz [.int a1, .int a2]) (QMw D (ws) (ws) sz (some (.int res))) 0 0 (AL (ws) sz) := by
  refine met_of (by decide) (Nat.le_of_ble_eq_true rfl) (fun p e s m args below meth c K hr0 X hsz ls hl => ?_)
  have K : MC D ca p s m args meth c cX8_cell 2 RX8 := K
  have hx := K.1
  have hb := K.2.1
  have hl : lv_has ls 2 [(0, .int a1), (1, .int a2)] := hl
  generalize hQ : MQ below _ args s 0 0 _ = Q
  unfold f_X8_cell at h0
  suffices Z : ∀ (H : Heap) (locs : List Loc) (X : RW D (ws) s.heap H locs), W p l e rm_X8_cell s m args below meth c H locs 0 0 Q (F0 m 0 ls []) from Z _ _ X
  intro H locs X
  refine lv_bipush (v := 18) hx hb dX8_cell_0 (by decide) ?_
  refine lv_bipush (v := 7) hx hb dX8_cell_2 (by decide) ?_
  refine lv_iload_n hx hb dX8_cell_4 rfl (lv_at hl 0 rfl) ?_
  refine lv_imul hx hb dX8_cell_5 ?_
  refine lv_iadd hx hb dX8_cell_6 ?_
  refine lv_iload_n hx hb dX8_cell_7 rfl (lv_at hl 1 rfl) ?_
  refine lv_iadd hx hb dX8_cell_8 ?_
  subst h0
  subst hQ
  exact w_iret K hr0 X rfl hsz dX8_cell_9
-- X8_laysTube
def f_X8_laysTube (M : RowS) (a1 : Int32) (a2 : Int32) (a3 : Int32) (a4 : Int32) (a5 : Int32) (a6 : Int32) : Option RowS :=
  lt (f_X8_cell a1 0) fun x1 =>
  if 0 ≤ x1.toInt ∧ x1.toInt < 102 then
    lt (si M 1 x1.toNatClampNeg a2) fun Mv3 =>
    lt (f_X8_cell a1 1) fun x4 =>
    if 0 ≤ x4.toInt ∧ x4.toInt < 102 then
      lt (si Mv3 1 x4.toNatClampNeg a3) fun Mv6 =>
      lt (f_X8_cell a1 2) fun x7 =>
      if 0 ≤ x7.toInt ∧ x7.toInt < 102 then
        lt (si Mv6 1 x7.toNatClampNeg a4) fun Mv9 =>
        lt (f_X8_cell a1 3) fun x10 =>
        if 0 ≤ x10.toInt ∧ x10.toInt < 102 then
          lt (si Mv9 1 x10.toNatClampNeg a5) fun Mv12 =>
          lt (f_X8_cell a1 4) fun x13 =>
          if 0 ≤ x13.toInt ∧ x13.toInt < 102 then
            lt (si Mv12 1 x13.toNatClampNeg a6) fun Mv15 =>
            lt (f_X8_cell a1 5) fun x16 =>
            if 0 ≤ x16.toInt ∧ x16.toInt < 102 then
              lt (si Mv15 1 x16.toNatClampNeg 0) fun Mv18 =>
              lt (f_X8_cell a1 6) fun x19 =>
              if 0 ≤ x19.toInt ∧ x19.toInt < 102 then
                lt (si Mv18 1 x19.toNatClampNeg 0) fun Mv21 =>
                some Mv21
              else none
            else none
          else none
        else none
      else none
    else none
  else none
abbrev rm_X8_laysTube : Room := { frames := 1, cells := 0, slots := 0, locals := 21 }
set_option maxRecDepth 100000 in
set_option maxHeartbeats 4000000 in
theorem m_X8_laysTube (l : Launch) (D : va_G) (ca : Nat → ClassId) (am : Nat → Nat) (M : RowS) (xs : va_W) (a1 : Int32) (a2 : Int32) (a3 : Int32) (a4 : Int32) (a5 : Int32) (a6 : Int32) (M' : RowS) (h0 : f_X8_laysTube M a1 a2 a3 a4 a5 a6 = some M') (sz : Nat) : Met l yX8_laysTube (ws_ yX8_laysTube cX8_laysTube 7 none) rm_X8_laysTube (PCw D ca (wM am ca M ++ xs) sz [.ref (am 0), .int a1, .int a2, .int a3, .int a4, .int a5, .int a6]) (QMw D (wM am ca M ++ xs) (wM am ca (M') ++ xs) sz none) 0 0 (AL (wM am ca M ++ xs) sz) := by
  refine met_of (by decide) (Nat.le_of_ble_eq_true rfl) (fun p e s m args below meth c K hr0 X hsz ls hl => ?_)
  have K : MC D ca p s m args meth c cX8_laysTube 7 RX8 := K
  have hx := K.1
  have hb := K.2.1
  have hl : lv_has ls 7 [(0, .ref (am 0)), (1, .int a1), (2, .int a2), (3, .int a3), (4, .int a4), (5, .int a5), (6, .int a6)] := hl
  generalize hQ : MQ below _ args s 0 0 _ = Q
  unfold f_X8_laysTube at h0
  suffices Z : ∀ (H : Heap) (locs : List Loc) (X : RW D (wM am ca M ++ xs) s.heap H locs), W p l e rm_X8_laysTube s m args below meth c H locs 0 0 Q (F0 m 0 ls []) from Z _ _ X
  intro H locs X
  refine lv_aload_n hx hb dX8_laysTube_0 rfl (lv_at hl 0 rfl) ?_
  refine g_modr K X 1 (by decide) (fun _ _ => rfl) q1400 dX8_laysTube_1 ?_
  refine lv_iload_n hx hb dX8_laysTube_4 rfl (lv_at hl 1 rfl) ?_
  refine lv_iconst (v := 0) hx hb dX8_laysTube_5 (by decide) ?_
  obtain ⟨x1, ex1, h0⟩ := lt_out h0
  have kx1 := m_X8_cell l D ca (wM am ca M ++ xs) a1 0 x1 ex1.symm H.size
  refine w_callS0 K X wM_fstx kx1 hl.1 2 q1598 q1599 q97 q1600 hs_X8_cell ⟨⟨Nat.le_of_ble_eq_true rfl, Nat.le_of_ble_eq_true rfl⟩, rfl, rfl⟩ rfl rfl (Nat.le_of_ble_eq_true rfl) dX8_laysTube_6 ⟨Nat.le_of_ble_eq_true rfl, Nat.le_of_ble_eq_true rfl⟩ rfl (fun H locs X => ?_)
  refine lv_iload_n hx hb dX8_laysTube_9 rfl (lv_at hl 2 rfl) ?_
  obtain ⟨c2, h0⟩ := if_o h0
  obtain ⟨Mv3, eMv3, h0⟩ := lt_out h0
  refine s_modi K X 1 1 102 rfl (fun _ => rfl) (inb_vp c2) eMv3 dX8_laysTube_10 (fun H locs X => ?_)
  refine lv_aload_n hx hb dX8_laysTube_11 rfl (lv_at hl 0 rfl) ?_
  refine g_modr K X 1 (by decide) (fun _ _ => rfl) q1400 dX8_laysTube_12 ?_
  refine lv_iload_n hx hb dX8_laysTube_15 rfl (lv_at hl 1 rfl) ?_
  refine lv_iconst (v := 1) hx hb dX8_laysTube_16 (by decide) ?_
  obtain ⟨x4, ex4, h0⟩ := lt_out h0
  have kx4 := m_X8_cell l D ca (wM am ca Mv3 ++ xs) a1 1 x4 ex4.symm H.size
  refine w_callS0 K X wM_fstx kx4 hl.1 2 q1598 q1599 q97 q1600 hs_X8_cell ⟨⟨Nat.le_of_ble_eq_true rfl, Nat.le_of_ble_eq_true rfl⟩, rfl, rfl⟩ rfl rfl (Nat.le_of_ble_eq_true rfl) dX8_laysTube_17 ⟨Nat.le_of_ble_eq_true rfl, Nat.le_of_ble_eq_true rfl⟩ rfl (fun H locs X => ?_)
  refine lv_iload_n hx hb dX8_laysTube_20 rfl (lv_at hl 3 rfl) ?_
  obtain ⟨c5, h0⟩ := if_o h0
  obtain ⟨Mv6, eMv6, h0⟩ := lt_out h0
  refine s_modi K X 1 1 102 rfl (fun _ => rfl) (inb_vp c5) eMv6 dX8_laysTube_21 (fun H locs X => ?_)
  refine lv_aload_n hx hb dX8_laysTube_22 rfl (lv_at hl 0 rfl) ?_
  refine g_modr K X 1 (by decide) (fun _ _ => rfl) q1400 dX8_laysTube_23 ?_
  refine lv_iload_n hx hb dX8_laysTube_26 rfl (lv_at hl 1 rfl) ?_
  refine lv_iconst (v := 2) hx hb dX8_laysTube_27 (by decide) ?_
  obtain ⟨x7, ex7, h0⟩ := lt_out h0
  have kx7 := m_X8_cell l D ca (wM am ca Mv6 ++ xs) a1 2 x7 ex7.symm H.size
  refine w_callS0 K X wM_fstx kx7 hl.1 2 q1598 q1599 q97 q1600 hs_X8_cell ⟨⟨Nat.le_of_ble_eq_true rfl, Nat.le_of_ble_eq_true rfl⟩, rfl, rfl⟩ rfl rfl (Nat.le_of_ble_eq_true rfl) dX8_laysTube_28 ⟨Nat.le_of_ble_eq_true rfl, Nat.le_of_ble_eq_true rfl⟩ rfl (fun H locs X => ?_)
  refine lv_iload hx hb dX8_laysTube_31 (lv_at hl 4 rfl) ?_
  obtain ⟨c8, h0⟩ := if_o h0
  obtain ⟨Mv9, eMv9, h0⟩ := lt_out h0
  refine s_modi K X 1 1 102 rfl (fun _ => rfl) (inb_vp c8) eMv9 dX8_laysTube_33 (fun H locs X => ?_)
  refine lv_aload_n hx hb dX8_laysTube_34 rfl (lv_at hl 0 rfl) ?_
  refine g_modr K X 1 (by decide) (fun _ _ => rfl) q1400 dX8_laysTube_35 ?_
  refine lv_iload_n hx hb dX8_laysTube_38 rfl (lv_at hl 1 rfl) ?_
  refine lv_iconst (v := 3) hx hb dX8_laysTube_39 (by decide) ?_
  obtain ⟨x10, ex10, h0⟩ := lt_out h0
  have kx10 := m_X8_cell l D ca (wM am ca Mv9 ++ xs) a1 3 x10 ex10.symm H.size
  refine w_callS0 K X wM_fstx kx10 hl.1 2 q1598 q1599 q97 q1600 hs_X8_cell ⟨⟨Nat.le_of_ble_eq_true rfl, Nat.le_of_ble_eq_true rfl⟩, rfl, rfl⟩ rfl rfl (Nat.le_of_ble_eq_true rfl) dX8_laysTube_40 ⟨Nat.le_of_ble_eq_true rfl, Nat.le_of_ble_eq_true rfl⟩ rfl (fun H locs X => ?_)
  refine lv_iload hx hb dX8_laysTube_43 (lv_at hl 5 rfl) ?_
  obtain ⟨c11, h0⟩ := if_o h0
  obtain ⟨Mv12, eMv12, h0⟩ := lt_out h0
  refine s_modi K X 1 1 102 rfl (fun _ => rfl) (inb_vp c11) eMv12 dX8_laysTube_45 (fun H locs X => ?_)
  refine lv_aload_n hx hb dX8_laysTube_46 rfl (lv_at hl 0 rfl) ?_
  refine g_modr K X 1 (by decide) (fun _ _ => rfl) q1400 dX8_laysTube_47 ?_
  refine lv_iload_n hx hb dX8_laysTube_50 rfl (lv_at hl 1 rfl) ?_
  refine lv_iconst (v := 4) hx hb dX8_laysTube_51 (by decide) ?_
  obtain ⟨x13, ex13, h0⟩ := lt_out h0
  have kx13 := m_X8_cell l D ca (wM am ca Mv12 ++ xs) a1 4 x13 ex13.symm H.size
  refine w_callS0 K X wM_fstx kx13 hl.1 2 q1598 q1599 q97 q1600 hs_X8_cell ⟨⟨Nat.le_of_ble_eq_true rfl, Nat.le_of_ble_eq_true rfl⟩, rfl, rfl⟩ rfl rfl (Nat.le_of_ble_eq_true rfl) dX8_laysTube_52 ⟨Nat.le_of_ble_eq_true rfl, Nat.le_of_ble_eq_true rfl⟩ rfl (fun H locs X => ?_)
  refine lv_iload hx hb dX8_laysTube_55 (lv_at hl 6 rfl) ?_
  obtain ⟨c14, h0⟩ := if_o h0
  obtain ⟨Mv15, eMv15, h0⟩ := lt_out h0
  refine s_modi K X 1 1 102 rfl (fun _ => rfl) (inb_vp c14) eMv15 dX8_laysTube_57 (fun H locs X => ?_)
  refine lv_aload_n hx hb dX8_laysTube_58 rfl (lv_at hl 0 rfl) ?_
  refine g_modr K X 1 (by decide) (fun _ _ => rfl) q1400 dX8_laysTube_59 ?_
  refine lv_iload_n hx hb dX8_laysTube_62 rfl (lv_at hl 1 rfl) ?_
  refine lv_iconst (v := 5) hx hb dX8_laysTube_63 (by decide) ?_
  obtain ⟨x16, ex16, h0⟩ := lt_out h0
  have kx16 := m_X8_cell l D ca (wM am ca Mv15 ++ xs) a1 5 x16 ex16.symm H.size
  refine w_callS0 K X wM_fstx kx16 hl.1 2 q1598 q1599 q97 q1600 hs_X8_cell ⟨⟨Nat.le_of_ble_eq_true rfl, Nat.le_of_ble_eq_true rfl⟩, rfl, rfl⟩ rfl rfl (Nat.le_of_ble_eq_true rfl) dX8_laysTube_64 ⟨Nat.le_of_ble_eq_true rfl, Nat.le_of_ble_eq_true rfl⟩ rfl (fun H locs X => ?_)
  refine lv_iconst (v := 0) hx hb dX8_laysTube_67 (by decide) ?_
  obtain ⟨c17, h0⟩ := if_o h0
  obtain ⟨Mv18, eMv18, h0⟩ := lt_out h0
  refine s_modi K X 1 1 102 rfl (fun _ => rfl) (inb_vp c17) eMv18 dX8_laysTube_68 (fun H locs X => ?_)
  refine lv_aload_n hx hb dX8_laysTube_69 rfl (lv_at hl 0 rfl) ?_
  refine g_modr K X 1 (by decide) (fun _ _ => rfl) q1400 dX8_laysTube_70 ?_
  refine lv_iload_n hx hb dX8_laysTube_73 rfl (lv_at hl 1 rfl) ?_
  refine lv_bipush (v := 6) hx hb dX8_laysTube_74 (by decide) ?_
  obtain ⟨x19, ex19, h0⟩ := lt_out h0
  have kx19 := m_X8_cell l D ca (wM am ca Mv18 ++ xs) a1 6 x19 ex19.symm H.size
  refine w_callS0 K X wM_fstx kx19 hl.1 2 q1598 q1599 q97 q1600 hs_X8_cell ⟨⟨Nat.le_of_ble_eq_true rfl, Nat.le_of_ble_eq_true rfl⟩, rfl, rfl⟩ rfl rfl (Nat.le_of_ble_eq_true rfl) dX8_laysTube_76 ⟨Nat.le_of_ble_eq_true rfl, Nat.le_of_ble_eq_true rfl⟩ rfl (fun H locs X => ?_)
  refine lv_iconst (v := 0) hx hb dX8_laysTube_79 (by decide) ?_
  obtain ⟨c20, h0⟩ := if_o h0
  obtain ⟨Mv21, eMv21, h0⟩ := lt_out h0
  refine s_modi K X 1 1 102 rfl (fun _ => rfl) (inb_vp c20) eMv21 dX8_laysTube_80 (fun H locs X => ?_)
  have h0 := Option.some.inj h0
  subst h0
  subst hQ
  exact w_vret K hr0 X wM_fstx hsz dX8_laysTube_81
-- X8_readsTube
def b_X8_readsTube_94  (y94_l1 : Int32) (y94_l2 : Int32) (y94_l3 : Int32) (y94_l4 : Int32) (y94_l5 : Int32) (y94_l6 : Int32) (y94_s0 : Int32) (M_94 : RowS) : Option RowS :=
  lt (f_X8_isGood M_94) fun x25 =>
  if x25 = true then
    ob (f_X8_laysTube M_94 y94_l1 y94_l2 y94_l3 y94_l4 y94_l5 y94_l6) fun x27 =>
    lt (x27) fun Mv28 =>
    lt (f_X8_cell y94_l1 5) fun x29 =>
    if 0 ≤ x29.toInt ∧ x29.toInt < 102 then
      lt (si Mv28 1 x29.toNatClampNeg y94_s0) fun Mv31 =>
      if 0 ≤ (2 : Int32).toInt ∧ (2 : Int32).toInt < 102 then
        lt (si Mv31 1 (2 : Int32).toNatClampNeg (y94_l1 + 1)) fun Mv33 =>
        some Mv33
      else none
    else none
  else
    some M_94
def f_X8_readsTube (n : Nat) (M : RowS) : Option RowS :=
  if 0 ≤ (2 : Int32).toInt ∧ (2 : Int32).toInt < 102 then
    lt (M.1 1 (2 : Int32).toNatClampNeg) fun x2 =>
    if x2 = 12 then
      lt (f_X8_wrongs M 3) fun x36 =>
      lt (x36.2) fun Mv37 =>
      some Mv37
    else
      ob (f_X8_next n M) fun x4 =>
      lt (x4) fun Mv5 =>
      ob (f_X8_number n Mv5 0 1) fun x6 =>
      lt (x6.2) fun Mv7 =>
      lt (x6.1) fun x8 =>
      if 0 ≤ (0 : Int32).toInt ∧ (0 : Int32).toInt < 102 then
        ob (f_X8_number n Mv7 0 ((Mv7.1 1 (0 : Int32).toNatClampNeg) - 1)) fun x10 =>
        lt (x10.2) fun Mv11 =>
        lt (x10.1) fun x12 =>
        ob (f_X8_number n Mv11 1 20) fun x13 =>
        lt (x13.2) fun Mv14 =>
        lt (x13.1) fun x15 =>
        ob (f_X8_number n Mv14 50 1000) fun x16 =>
        lt (x16.2) fun Mv17 =>
        lt (x16.1) fun x18 =>
        ob (f_X8_number n Mv17 10 2000) fun x19 =>
        lt (x19.2) fun Mv20 =>
        lt (x19.1) fun x21 =>
        ob (f_X8_passes n Mv20 257105) fun x22 =>
        lt (x22.2) fun Mv23 =>
        if x22.1 = true then
          ob (f_X8_signed n Mv23) fun x34 =>
          lt (x34.2) fun Mv35 =>
          b_X8_readsTube_94 x2 x8 x12 x15 x18 x21 x34.1 Mv35
        else
          b_X8_readsTube_94 x2 x8 x12 x15 x18 x21 0 Mv23
      else none
  else none
abbrev rm_X8_readsTube : Room := { frames := 5, cells := 0, slots := 0, locals := 106 }
set_option maxRecDepth 100000 in
set_option maxHeartbeats 4000000 in
theorem m_X8_readsTube (l : Launch) (D : va_G) (ca : Nat → ClassId) (am : Nat → Nat) (n : Nat) (M : RowS) (xs : va_W) (M' : RowS) (h0 : f_X8_readsTube n M = some M') (sz : Nat) : Met l yX8_readsTube (ws_ yX8_readsTube cX8_readsTube 8 none) rm_X8_readsTube (PCw D ca (wM am ca M ++ xs) sz [.ref (am 0)]) (QMw D (wM am ca M ++ xs) (wM am ca (M') ++ xs) sz none) 0 0 (AL (wM am ca M ++ xs) sz) := by
  refine met_of (by decide) (Nat.le_of_ble_eq_true rfl) (fun p e s m args below meth c K hr0 X hsz ls hl => ?_)
  have K : MC D ca p s m args meth c cX8_readsTube 8 RX8 := K
  have hx := K.1
  have hb := K.2.1
  have hl : lv_has ls 8 [(0, .ref (am 0))] := hl
  generalize hQ : MQ below _ args s 0 0 _ = Q
  unfold f_X8_readsTube at h0
  suffices Z : ∀ (H : Heap) (locs : List Loc) (X : RW D (wM am ca M ++ xs) s.heap H locs), W p l e rm_X8_readsTube s m args below meth c H locs 0 0 Q (F0 m 0 ls []) from Z _ _ X
  intro H locs X
  have J94 : ∀ (y94_l1 : Int32) (y94_l2 : Int32) (y94_l3 : Int32) (y94_l4 : Int32) (y94_l5 : Int32) (y94_l6 : Int32) (y94_s0 : Int32) (M_94 : RowS) (H : Heap) (locs : List Loc) (X : RW D (wM am ca M_94 ++ xs) s.heap H locs) (ls : Array Slot) (hl : lv_has ls 8 [(0, .ref (am 0)), (1, .int y94_l1), (2, .int y94_l2), (3, .int y94_l3), (4, .int y94_l4), (5, .int y94_l5), (6, .int y94_l6)]) (h0 : b_X8_readsTube_94 y94_l1 y94_l2 y94_l3 y94_l4 y94_l5 y94_l6 y94_s0 M_94 = some M'), W p l e rm_X8_readsTube s m args below meth c H locs 0 0 Q (F0 m 94 ls [.int y94_s0]) := by
    intro y94_l1 y94_l2 y94_l3 y94_l4 y94_l5 y94_l6 y94_s0 M_94 H locs X ls hl h0
    unfold b_X8_readsTube_94 at h0
    refine lv_istore (lv' := [(7, .int y94_s0), (0, .ref (am 0)), (1, .int y94_l1), (2, .int y94_l2), (3, .int y94_l3), (4, .int y94_l4), (5, .int y94_l5), (6, .int y94_l6)]) hx hb dX8_readsTube_94 hl (by decide) rfl (fun ls hl => ?_)
    refine lv_aload_n hx hb dX8_readsTube_96 rfl (lv_at hl 1 rfl) ?_
    obtain ⟨x25, ex25, h0⟩ := lt_out h0
    have kx25 := m_X8_isGood l D ca am M_94 xs x25 ex25.symm H.size
    refine w_callV0 K X wM_fstx kx25 hl.1 0 q1563 q1565 q32 q97 q1566 hv_X8_isGood ⟨⟨Nat.le_of_ble_eq_true rfl, Nat.le_of_ble_eq_true rfl⟩, rfl, rfl⟩ pl_modo rfl rfl rfl rfl (Nat.le_of_ble_eq_true rfl) dX8_readsTube_97 ⟨Nat.le_of_ble_eq_true rfl, Nat.le_of_ble_eq_true rfl⟩ rfl (fun H locs X => ?_)
    refine w_zne (tgt := 104) K dX8_readsTube_100 (by decide) (fun c26 => ?_) (fun c26 => ?_)
    · have h0 := if_t c26 h0
      refine lv_aload_n hx hb dX8_readsTube_104 rfl (lv_at hl 1 rfl) ?_
      refine lv_iload_n hx hb dX8_readsTube_105 rfl (lv_at hl 2 rfl) ?_
      refine lv_iload_n hx hb dX8_readsTube_106 rfl (lv_at hl 3 rfl) ?_
      refine lv_iload_n hx hb dX8_readsTube_107 rfl (lv_at hl 4 rfl) ?_
      refine lv_iload hx hb dX8_readsTube_108 (lv_at hl 5 rfl) ?_
      refine lv_iload hx hb dX8_readsTube_110 (lv_at hl 6 rfl) ?_
      refine lv_iload hx hb dX8_readsTube_112 (lv_at hl 7 rfl) ?_
      obtain ⟨x27, ex27, h0⟩ := ob_out h0
      obtain ⟨Mv28, eMv28, h0⟩ := lt_out h0
      have kx27 := m_X8_laysTube l D ca am M_94 xs y94_l1 y94_l2 y94_l3 y94_l4 y94_l5 y94_l6 x27 ex27 H.size
      rw [← eMv28] at kx27
      refine w_callV0 K X wM_fstx kx27 hl.1 6 q1594 q1596 q39 q97 q1597 hv_X8_laysTube ⟨⟨Nat.le_of_ble_eq_true rfl, Nat.le_of_ble_eq_true rfl⟩, rfl, rfl⟩ pl_modo rfl rfl rfl rfl (Nat.le_of_ble_eq_true rfl) dX8_readsTube_114 ⟨Nat.le_of_ble_eq_true rfl, Nat.le_of_ble_eq_true rfl⟩ rfl (fun H locs X => ?_)
      refine lv_aload_n hx hb dX8_readsTube_117 rfl (lv_at hl 1 rfl) ?_
      refine g_modr K X 1 (by decide) (fun _ _ => rfl) q1400 dX8_readsTube_118 ?_
      refine lv_iload_n hx hb dX8_readsTube_121 rfl (lv_at hl 2 rfl) ?_
      refine lv_iconst (v := 5) hx hb dX8_readsTube_122 (by decide) ?_
      obtain ⟨x29, ex29, h0⟩ := lt_out h0
      have kx29 := m_X8_cell l D ca (wM am ca Mv28 ++ xs) y94_l1 5 x29 ex29.symm H.size
      refine w_callS0 K X wM_fstx kx29 hl.1 2 q1598 q1599 q97 q1600 hs_X8_cell ⟨⟨Nat.le_of_ble_eq_true rfl, Nat.le_of_ble_eq_true rfl⟩, rfl, rfl⟩ rfl rfl (Nat.le_of_ble_eq_true rfl) dX8_readsTube_123 ⟨Nat.le_of_ble_eq_true rfl, Nat.le_of_ble_eq_true rfl⟩ rfl (fun H locs X => ?_)
      refine lv_iload hx hb dX8_readsTube_126 (lv_at hl 0 rfl) ?_
      obtain ⟨c30, h0⟩ := if_o h0
      obtain ⟨Mv31, eMv31, h0⟩ := lt_out h0
      refine s_modi K X 1 1 102 rfl (fun _ => rfl) (inb_vp c30) eMv31 dX8_readsTube_128 (fun H locs X => ?_)
      refine lv_aload_n hx hb dX8_readsTube_129 rfl (lv_at hl 1 rfl) ?_
      refine g_modr K X 1 (by decide) (fun _ _ => rfl) q1400 dX8_readsTube_130 ?_
      refine lv_iconst (v := 2) hx hb dX8_readsTube_133 (by decide) ?_
      refine lv_iload_n hx hb dX8_readsTube_134 rfl (lv_at hl 2 rfl) ?_
      refine lv_iconst (v := 1) hx hb dX8_readsTube_135 (by decide) ?_
      refine lv_iadd hx hb dX8_readsTube_136 ?_
      obtain ⟨c32, h0⟩ := if_o h0
      obtain ⟨Mv33, eMv33, h0⟩ := lt_out h0
      refine s_modi K X 1 1 102 rfl (fun _ => rfl) (inb_vp c32) eMv33 dX8_readsTube_137 (fun H locs X => ?_)
      have h0 := Option.some.inj h0
      subst h0
      subst hQ
      exact w_vret K hr0 X wM_fstx hsz dX8_readsTube_138
    · have h0 := if_f c26 h0
      have h0 := Option.some.inj h0
      subst h0
      subst hQ
      exact w_vret K hr0 X wM_fstx hsz dX8_readsTube_103
  refine lv_aload_n hx hb dX8_readsTube_0 rfl (lv_at hl 0 rfl) ?_
  refine g_modr K X 1 (by decide) (fun _ _ => rfl) q1400 dX8_readsTube_1 ?_
  refine lv_iconst (v := 2) hx hb dX8_readsTube_4 (by decide) ?_
  obtain ⟨c1, h0⟩ := if_o h0
  refine a_modi K X 1 1 102 rfl rfl (inb_vp c1) dX8_readsTube_5 ?_
  obtain ⟨x2, ex2, h0⟩ := lt_out h0
  refine w_int ex2 ?_
  refine lv_istore_n (lv' := [(1, .int x2), (0, .ref (am 0))]) hx hb dX8_readsTube_6 rfl hl (by decide) rfl (fun ls hl => ?_)
  refine lv_iload_n hx hb dX8_readsTube_7 rfl (lv_at hl 0 rfl) ?_
  refine lv_bipush (v := 12) hx hb dX8_readsTube_8 (by decide) ?_
  refine lv_icmp_ne (tgt := 20) hx hb dX8_readsTube_10 (by decide) (fun c3 => ?_) (fun c3 => ?_)
  · have h0 := if_f c3 h0
    refine lv_aload_n hx hb dX8_readsTube_20 rfl (lv_at hl 1 rfl) ?_
    obtain ⟨x4, ex4, h0⟩ := ob_out h0
    obtain ⟨Mv5, eMv5, h0⟩ := lt_out h0
    have kx4 := m_X8_next l D ca am n M xs x4 ex4 H.size
    rw [← eMv5] at kx4
    refine w_callV0 K X wM_fstx kx4 hl.1 0 q1525 q1527 q25 q97 q1528 hv_X8_next ⟨⟨Nat.le_of_ble_eq_true rfl, Nat.le_of_ble_eq_true rfl⟩, rfl, rfl⟩ pl_modo rfl rfl rfl rfl (Nat.le_of_ble_eq_true rfl) dX8_readsTube_21 ⟨Nat.le_of_ble_eq_true rfl, Nat.le_of_ble_eq_true rfl⟩ rfl (fun H locs X => ?_)
    refine lv_aload_n hx hb dX8_readsTube_24 rfl (lv_at hl 1 rfl) ?_
    refine lv_iconst (v := 0) hx hb dX8_readsTube_25 (by decide) ?_
    refine lv_iconst (v := 1) hx hb dX8_readsTube_26 (by decide) ?_
    obtain ⟨x6, ex6, h0⟩ := ob_out h0
    obtain ⟨Mv7, eMv7, h0⟩ := lt_out h0
    have kx6 := m_X8_number l D ca am n Mv5 xs 0 1 x6.1 x6.2 ex6 H.size
    rw [← eMv7] at kx6
    refine w_callV0 K X wM_fstx kx6 hl.1 2 q1571 q1573 q34 q97 q1574 hv_X8_number ⟨⟨Nat.le_of_ble_eq_true rfl, Nat.le_of_ble_eq_true rfl⟩, rfl, rfl⟩ pl_modo rfl rfl rfl rfl (Nat.le_of_ble_eq_true rfl) dX8_readsTube_27 ⟨Nat.le_of_ble_eq_true rfl, Nat.le_of_ble_eq_true rfl⟩ rfl (fun H locs X => ?_)
    obtain ⟨x8, ex8, h0⟩ := lt_out h0
    refine w_int ex8 ?_
    refine lv_istore_n (lv' := [(2, .int x8), (1, .int x2), (0, .ref (am 0))]) hx hb dX8_readsTube_30 rfl hl (by decide) rfl (fun ls hl => ?_)
    refine lv_aload_n hx hb dX8_readsTube_31 rfl (lv_at hl 2 rfl) ?_
    refine lv_iconst (v := 0) hx hb dX8_readsTube_32 (by decide) ?_
    refine lv_aload_n hx hb dX8_readsTube_33 rfl (lv_at hl 2 rfl) ?_
    refine g_modr K X 1 (by decide) (fun _ _ => rfl) q1400 dX8_readsTube_34 ?_
    refine lv_iconst (v := 0) hx hb dX8_readsTube_37 (by decide) ?_
    obtain ⟨c9, h0⟩ := if_o h0
    refine a_modi K X 1 1 102 rfl rfl (inb_vp c9) dX8_readsTube_38 ?_
    refine lv_iconst (v := 1) hx hb dX8_readsTube_39 (by decide) ?_
    refine lv_isub hx hb dX8_readsTube_40 ?_
    obtain ⟨x10, ex10, h0⟩ := ob_out h0
    obtain ⟨Mv11, eMv11, h0⟩ := lt_out h0
    have kx10 := m_X8_number l D ca am n Mv7 xs 0 ((Mv7.1 1 (0 : Int32).toNatClampNeg) - 1) x10.1 x10.2 ex10 H.size
    rw [← eMv11] at kx10
    refine w_callV0 K X wM_fstx kx10 hl.1 2 q1571 q1573 q34 q97 q1574 hv_X8_number ⟨⟨Nat.le_of_ble_eq_true rfl, Nat.le_of_ble_eq_true rfl⟩, rfl, rfl⟩ pl_modo rfl rfl rfl rfl (Nat.le_of_ble_eq_true rfl) dX8_readsTube_41 ⟨Nat.le_of_ble_eq_true rfl, Nat.le_of_ble_eq_true rfl⟩ rfl (fun H locs X => ?_)
    obtain ⟨x12, ex12, h0⟩ := lt_out h0
    refine w_int ex12 ?_
    refine lv_istore_n (lv' := [(3, .int x12), (2, .int x8), (1, .int x2), (0, .ref (am 0))]) hx hb dX8_readsTube_44 rfl hl (by decide) rfl (fun ls hl => ?_)
    refine lv_aload_n hx hb dX8_readsTube_45 rfl (lv_at hl 3 rfl) ?_
    refine lv_iconst (v := 1) hx hb dX8_readsTube_46 (by decide) ?_
    refine lv_bipush (v := 20) hx hb dX8_readsTube_47 (by decide) ?_
    obtain ⟨x13, ex13, h0⟩ := ob_out h0
    obtain ⟨Mv14, eMv14, h0⟩ := lt_out h0
    have kx13 := m_X8_number l D ca am n Mv11 xs 1 20 x13.1 x13.2 ex13 H.size
    rw [← eMv14] at kx13
    refine w_callV0 K X wM_fstx kx13 hl.1 2 q1571 q1573 q34 q97 q1574 hv_X8_number ⟨⟨Nat.le_of_ble_eq_true rfl, Nat.le_of_ble_eq_true rfl⟩, rfl, rfl⟩ pl_modo rfl rfl rfl rfl (Nat.le_of_ble_eq_true rfl) dX8_readsTube_49 ⟨Nat.le_of_ble_eq_true rfl, Nat.le_of_ble_eq_true rfl⟩ rfl (fun H locs X => ?_)
    obtain ⟨x15, ex15, h0⟩ := lt_out h0
    refine w_int ex15 ?_
    refine lv_istore (lv' := [(4, .int x15), (3, .int x12), (2, .int x8), (1, .int x2), (0, .ref (am 0))]) hx hb dX8_readsTube_52 hl (by decide) rfl (fun ls hl => ?_)
    refine lv_aload_n hx hb dX8_readsTube_54 rfl (lv_at hl 4 rfl) ?_
    refine lv_bipush (v := 50) hx hb dX8_readsTube_55 (by decide) ?_
    refine lv_sipush (v := 1000) hx hb dX8_readsTube_57 (by decide) ?_
    obtain ⟨x16, ex16, h0⟩ := ob_out h0
    obtain ⟨Mv17, eMv17, h0⟩ := lt_out h0
    have kx16 := m_X8_number l D ca am n Mv14 xs 50 1000 x16.1 x16.2 ex16 H.size
    rw [← eMv17] at kx16
    refine w_callV0 K X wM_fstx kx16 hl.1 2 q1571 q1573 q34 q97 q1574 hv_X8_number ⟨⟨Nat.le_of_ble_eq_true rfl, Nat.le_of_ble_eq_true rfl⟩, rfl, rfl⟩ pl_modo rfl rfl rfl rfl (Nat.le_of_ble_eq_true rfl) dX8_readsTube_60 ⟨Nat.le_of_ble_eq_true rfl, Nat.le_of_ble_eq_true rfl⟩ rfl (fun H locs X => ?_)
    obtain ⟨x18, ex18, h0⟩ := lt_out h0
    refine w_int ex18 ?_
    refine lv_istore (lv' := [(5, .int x18), (4, .int x15), (3, .int x12), (2, .int x8), (1, .int x2), (0, .ref (am 0))]) hx hb dX8_readsTube_63 hl (by decide) rfl (fun ls hl => ?_)
    refine lv_aload_n hx hb dX8_readsTube_65 rfl (lv_at hl 5 rfl) ?_
    refine lv_bipush (v := 10) hx hb dX8_readsTube_66 (by decide) ?_
    refine lv_sipush (v := 2000) hx hb dX8_readsTube_68 (by decide) ?_
    obtain ⟨x19, ex19, h0⟩ := ob_out h0
    obtain ⟨Mv20, eMv20, h0⟩ := lt_out h0
    have kx19 := m_X8_number l D ca am n Mv17 xs 10 2000 x19.1 x19.2 ex19 H.size
    rw [← eMv20] at kx19
    refine w_callV0 K X wM_fstx kx19 hl.1 2 q1571 q1573 q34 q97 q1574 hv_X8_number ⟨⟨Nat.le_of_ble_eq_true rfl, Nat.le_of_ble_eq_true rfl⟩, rfl, rfl⟩ pl_modo rfl rfl rfl rfl (Nat.le_of_ble_eq_true rfl) dX8_readsTube_71 ⟨Nat.le_of_ble_eq_true rfl, Nat.le_of_ble_eq_true rfl⟩ rfl (fun H locs X => ?_)
    obtain ⟨x21, ex21, h0⟩ := lt_out h0
    refine w_int ex21 ?_
    refine lv_istore (lv' := [(6, .int x21), (5, .int x18), (4, .int x15), (3, .int x12), (2, .int x8), (1, .int x2), (0, .ref (am 0))]) hx hb dX8_readsTube_74 hl (by decide) rfl (fun ls hl => ?_)
    refine lv_aload_n hx hb dX8_readsTube_76 rfl (lv_at hl 6 rfl) ?_
    refine lv_ldc2 hx hb K.2.2.2.1 (K.2.2.2.2.1 _ q1589) dX8_readsTube_77 ?_
    obtain ⟨x22, ex22, h0⟩ := ob_out h0
    obtain ⟨Mv23, eMv23, h0⟩ := lt_out h0
    have kx22 := m_X8_passes l D ca am n Mv20 xs 257105 x22.1 x22.2 ex22 H.size
    rw [← eMv23] at kx22
    refine w_callV0 K X wM_fstx kx22 hl.1 1 q1555 q1557 q30 q97 q1558 hv_X8_passes ⟨⟨Nat.le_of_ble_eq_true rfl, Nat.le_of_ble_eq_true rfl⟩, rfl, rfl⟩ pl_modo rfl rfl rfl rfl (Nat.le_of_ble_eq_true rfl) dX8_readsTube_80 ⟨Nat.le_of_ble_eq_true rfl, Nat.le_of_ble_eq_true rfl⟩ rfl (fun H locs X => ?_)
    refine w_zeq (tgt := 93) K dX8_readsTube_83 (by decide) (fun c24 => ?_) (fun c24 => ?_)
    · have h0 := if_f c24 h0
      refine lv_iconst (v := 0) hx hb dX8_readsTube_93 (by decide) ?_
      exact J94 x2 x8 x12 x15 x18 x21 0 Mv23 H locs X ls (lv_sub hl [6, 5, 4, 3, 2, 1, 0] rfl) h0
    · have h0 := if_t c24 h0
      refine lv_aload_n hx hb dX8_readsTube_86 rfl (lv_at hl 6 rfl) ?_
      obtain ⟨x34, ex34, h0⟩ := ob_out h0
      obtain ⟨Mv35, eMv35, h0⟩ := lt_out h0
      have kx34 := m_X8_signed l D ca am n Mv23 xs x34.1 x34.2 ex34 H.size
      rw [← eMv35] at kx34
      refine w_callV0 K X wM_fstx kx34 hl.1 0 q1590 q1592 q38 q97 q1593 hv_X8_signed ⟨⟨Nat.le_of_ble_eq_true rfl, Nat.le_of_ble_eq_true rfl⟩, rfl, rfl⟩ pl_modo rfl rfl rfl rfl (Nat.le_of_ble_eq_true rfl) dX8_readsTube_87 ⟨Nat.le_of_ble_eq_true rfl, Nat.le_of_ble_eq_true rfl⟩ rfl (fun H locs X => ?_)
      refine lv_goto (tgt := 94) hx hb dX8_readsTube_90 (by decide) ?_
      exact J94 x2 x8 x12 x15 x18 x21 x34.1 Mv35 H locs X ls (lv_sub hl [6, 5, 4, 3, 2, 1, 0] rfl) h0
  · have h0 := if_t c3 h0
    refine lv_aload_n hx hb dX8_readsTube_13 rfl (lv_at hl 1 rfl) ?_
    refine lv_iconst (v := 3) hx hb dX8_readsTube_14 (by decide) ?_
    obtain ⟨x36, ex36, h0⟩ := lt_out h0
    obtain ⟨Mv37, eMv37, h0⟩ := lt_out h0
    have kx36 := m_X8_wrongs l D ca am M xs 3 x36.1 x36.2 ex36.symm H.size
    rw [← eMv37] at kx36
    refine w_callV0 K X wM_fstx kx36 hl.1 1 q1567 q1569 q33 q97 q1570 hv_X8_wrongs ⟨⟨Nat.le_of_ble_eq_true rfl, Nat.le_of_ble_eq_true rfl⟩, rfl, rfl⟩ pl_modo rfl rfl rfl rfl (Nat.le_of_ble_eq_true rfl) dX8_readsTube_15 ⟨Nat.le_of_ble_eq_true rfl, Nat.le_of_ble_eq_true rfl⟩ rfl (fun H locs X => ?_)
    refine lv_pop hx hb dX8_readsTube_18 rfl ?_
    have h0 := Option.some.inj h0
    subst h0
    subst hQ
    exact w_vret K hr0 X wM_fstx hsz dX8_readsTube_19
-- X8_readsPressure
def f_X8_readsPressure (n : Nat) (M : RowS) : Option RowS :=
  if 0 ≤ (0 : Int32).toInt ∧ (0 : Int32).toInt < 102 then
    ob (f_X8_number n M 0 ((M.1 1 (0 : Int32).toNatClampNeg) - 1)) fun x2 =>
    lt (x2.2) fun Mv3 =>
    lt (x2.1) fun x4 =>
    ob (f_X8_number n Mv3 0 99999) fun x5 =>
    lt (x5.2) fun Mv6 =>
    lt (x5.1) fun x7 =>
    lt (f_X8_isGood Mv6) fun x8 =>
    if x8 = true then
      if 0 ≤ (4 + x4).toInt ∧ (4 + x4).toInt < 102 then
        lt (si Mv6 1 (4 + x4).toNatClampNeg x7) fun Mv11 =>
        some Mv11
      else none
    else
      some Mv6
  else none
abbrev rm_X8_readsPressure : Room := { frames := 4, cells := 0, slots := 0, locals := 84 }
set_option maxRecDepth 100000 in
set_option maxHeartbeats 4000000 in
theorem m_X8_readsPressure (l : Launch) (D : va_G) (ca : Nat → ClassId) (am : Nat → Nat) (n : Nat) (M : RowS) (xs : va_W) (M' : RowS) (h0 : f_X8_readsPressure n M = some M') (sz : Nat) : Met l yX8_readsPressure (ws_ yX8_readsPressure cX8_readsPressure 3 none) rm_X8_readsPressure (PCw D ca (wM am ca M ++ xs) sz [.ref (am 0)]) (QMw D (wM am ca M ++ xs) (wM am ca (M') ++ xs) sz none) 0 0 (AL (wM am ca M ++ xs) sz) := by
  refine met_of (by decide) (Nat.le_of_ble_eq_true rfl) (fun p e s m args below meth c K hr0 X hsz ls hl => ?_)
  have K : MC D ca p s m args meth c cX8_readsPressure 3 RX8 := K
  have hx := K.1
  have hb := K.2.1
  have hl : lv_has ls 3 [(0, .ref (am 0))] := hl
  generalize hQ : MQ below _ args s 0 0 _ = Q
  unfold f_X8_readsPressure at h0
  suffices Z : ∀ (H : Heap) (locs : List Loc) (X : RW D (wM am ca M ++ xs) s.heap H locs), W p l e rm_X8_readsPressure s m args below meth c H locs 0 0 Q (F0 m 0 ls []) from Z _ _ X
  intro H locs X
  refine lv_aload_n hx hb dX8_readsPressure_0 rfl (lv_at hl 0 rfl) ?_
  refine lv_iconst (v := 0) hx hb dX8_readsPressure_1 (by decide) ?_
  refine lv_aload_n hx hb dX8_readsPressure_2 rfl (lv_at hl 0 rfl) ?_
  refine g_modr K X 1 (by decide) (fun _ _ => rfl) q1400 dX8_readsPressure_3 ?_
  refine lv_iconst (v := 0) hx hb dX8_readsPressure_6 (by decide) ?_
  obtain ⟨c1, h0⟩ := if_o h0
  refine a_modi K X 1 1 102 rfl rfl (inb_vp c1) dX8_readsPressure_7 ?_
  refine lv_iconst (v := 1) hx hb dX8_readsPressure_8 (by decide) ?_
  refine lv_isub hx hb dX8_readsPressure_9 ?_
  obtain ⟨x2, ex2, h0⟩ := ob_out h0
  obtain ⟨Mv3, eMv3, h0⟩ := lt_out h0
  have kx2 := m_X8_number l D ca am n M xs 0 ((M.1 1 (0 : Int32).toNatClampNeg) - 1) x2.1 x2.2 ex2 H.size
  rw [← eMv3] at kx2
  refine w_callV0 K X wM_fstx kx2 hl.1 2 q1571 q1573 q34 q97 q1574 hv_X8_number ⟨⟨Nat.le_of_ble_eq_true rfl, Nat.le_of_ble_eq_true rfl⟩, rfl, rfl⟩ pl_modo rfl rfl rfl rfl (Nat.le_of_ble_eq_true rfl) dX8_readsPressure_10 ⟨Nat.le_of_ble_eq_true rfl, Nat.le_of_ble_eq_true rfl⟩ rfl (fun H locs X => ?_)
  obtain ⟨x4, ex4, h0⟩ := lt_out h0
  refine w_int ex4 ?_
  refine lv_istore_n (lv' := [(1, .int x4), (0, .ref (am 0))]) hx hb dX8_readsPressure_13 rfl hl (by decide) rfl (fun ls hl => ?_)
  refine lv_aload_n hx hb dX8_readsPressure_14 rfl (lv_at hl 1 rfl) ?_
  refine lv_iconst (v := 0) hx hb dX8_readsPressure_15 (by decide) ?_
  refine lv_ldc hx hb K.2.2.2.1 (K.2.2.2.2.1 _ q1575) dX8_readsPressure_16 ?_
  obtain ⟨x5, ex5, h0⟩ := ob_out h0
  obtain ⟨Mv6, eMv6, h0⟩ := lt_out h0
  have kx5 := m_X8_number l D ca am n Mv3 xs 0 99999 x5.1 x5.2 ex5 H.size
  rw [← eMv6] at kx5
  refine w_callV0 K X wM_fstx kx5 hl.1 2 q1571 q1573 q34 q97 q1574 hv_X8_number ⟨⟨Nat.le_of_ble_eq_true rfl, Nat.le_of_ble_eq_true rfl⟩, rfl, rfl⟩ pl_modo rfl rfl rfl rfl (Nat.le_of_ble_eq_true rfl) dX8_readsPressure_18 ⟨Nat.le_of_ble_eq_true rfl, Nat.le_of_ble_eq_true rfl⟩ rfl (fun H locs X => ?_)
  obtain ⟨x7, ex7, h0⟩ := lt_out h0
  refine w_int ex7 ?_
  refine lv_istore_n (lv' := [(2, .int x7), (1, .int x4), (0, .ref (am 0))]) hx hb dX8_readsPressure_21 rfl hl (by decide) rfl (fun ls hl => ?_)
  refine lv_aload_n hx hb dX8_readsPressure_22 rfl (lv_at hl 2 rfl) ?_
  obtain ⟨x8, ex8, h0⟩ := lt_out h0
  have kx8 := m_X8_isGood l D ca am Mv6 xs x8 ex8.symm H.size
  refine w_callV0 K X wM_fstx kx8 hl.1 0 q1563 q1565 q32 q97 q1566 hv_X8_isGood ⟨⟨Nat.le_of_ble_eq_true rfl, Nat.le_of_ble_eq_true rfl⟩, rfl, rfl⟩ pl_modo rfl rfl rfl rfl (Nat.le_of_ble_eq_true rfl) dX8_readsPressure_23 ⟨Nat.le_of_ble_eq_true rfl, Nat.le_of_ble_eq_true rfl⟩ rfl (fun H locs X => ?_)
  refine w_zeq (tgt := 38) K dX8_readsPressure_26 (by decide) (fun c9 => ?_) (fun c9 => ?_)
  · have h0 := if_f c9 h0
    have h0 := Option.some.inj h0
    subst h0
    subst hQ
    exact w_vret K hr0 X wM_fstx hsz dX8_readsPressure_38
  · have h0 := if_t c9 h0
    refine lv_aload_n hx hb dX8_readsPressure_29 rfl (lv_at hl 2 rfl) ?_
    refine g_modr K X 1 (by decide) (fun _ _ => rfl) q1400 dX8_readsPressure_30 ?_
    refine lv_iconst (v := 4) hx hb dX8_readsPressure_33 (by decide) ?_
    refine lv_iload_n hx hb dX8_readsPressure_34 rfl (lv_at hl 1 rfl) ?_
    refine lv_iadd hx hb dX8_readsPressure_35 ?_
    refine lv_iload_n hx hb dX8_readsPressure_36 rfl (lv_at hl 0 rfl) ?_
    obtain ⟨c10, h0⟩ := if_o h0
    obtain ⟨Mv11, eMv11, h0⟩ := lt_out h0
    refine s_modi K X 1 1 102 rfl (fun _ => rfl) (inb_vp c10) eMv11 dX8_readsPressure_37 (fun H locs X => ?_)
    have h0 := Option.some.inj h0
    subst h0
    subst hQ
    exact w_vret K hr0 X wM_fstx hsz dX8_readsPressure_38
-- X8_readsAll
def b_X8_readsAll_123  (M_123 : RowS) : Option RowS :=
  some M_123
def b_X8_readsAll_114 (n : Nat) (M_114 : RowS) : Option (RowS ⊕ RowS) :=
  ob (f_X8_must n M_114 59) fun x26 =>
  lt (x26) fun Mv27 =>
  some (.inl Mv27)
def l_X8_readsAll_43 (n : Nat) (Mz_43 : RowS) : Option (RowS ⊕ RowS) :=
  lt (f_X8_isGood Mz_43) fun x13 =>
  if x13 = true then
    if (Mz_43.1 0 16) = 0 then
      some (.inr Mz_43)
    else
      lt (f_X8_isWord Mz_43 409028) fun x16 =>
      if x16 = true then
        ob (f_X8_readsTube n Mz_43) fun x32 =>
        lt (x32) fun Mv33 =>
        b_X8_readsAll_114 n Mv33
      else
        ob (f_X8_passes n Mz_43 8890) fun x18 =>
        lt (x18.2) fun Mv19 =>
        if x18.1 = true then
          ob (f_X8_readsLeg n Mv19) fun x30 =>
          lt (x30) fun Mv31 =>
          b_X8_readsAll_114 n Mv31
        else
          ob (f_X8_passes n Mv19 174421451741) fun x21 =>
          lt (x21.2) fun Mv22 =>
          if x21.1 = true then
            ob (f_X8_readsPressure n Mv22) fun x28 =>
            lt (x28) fun Mv29 =>
            b_X8_readsAll_114 n Mv29
          else
            lt (f_X8_wrongs Mv22 1) fun x24 =>
            lt (x24.2) fun Mv25 =>
            b_X8_readsAll_114 n Mv25
  else
    some (.inr Mz_43)
def f_X8_readsAll (n : Nat) (M : RowS) : Option RowS :=
  ob (f_X8_passes n M 101392390) fun x1 =>
  lt (x1.2) fun Mv2 =>
  if x1.1 = true then
    ob (f_X8_number n Mv2 2 8) fun x4 =>
    lt (x4.2) fun Mv5 =>
    lt (x4.1) fun x6 =>
    ob (f_X8_number n Mv5 0 99999) fun x7 =>
    lt (x7.2) fun Mv8 =>
    ob (f_X8_begins n Mv8 x6 x7.1) fun x9 =>
    lt (x9) fun Mv10 =>
    ob (f_X8_must n Mv10 59) fun x11 =>
    lt (x11) fun Mv12 =>
    ob (wloop (fun t => l_X8_readsAll_43 n t) n Mv12) (fun t => b_X8_readsAll_123 t)
  else
    lt (f_X8_wrongs Mv2 1) fun x34 =>
    lt (x34.2) fun Mv35 =>
    some Mv35
abbrev rm_X8_readsAll : Room := { frames := 6, cells := 0, slots := 0, locals := 133 }
set_option maxRecDepth 100000 in
set_option maxHeartbeats 4000000 in
theorem m_X8_readsAll (l : Launch) (D : va_G) (ca : Nat → ClassId) (am : Nat → Nat) (n : Nat) (M : RowS) (xs : va_W) (M' : RowS) (h0 : f_X8_readsAll n M = some M') (sz : Nat) : Met l yX8_readsAll (ws_ yX8_readsAll cX8_readsAll 2 none) rm_X8_readsAll (PCw D ca (wM am ca M ++ xs) sz [.ref (am 0)]) (QMw D (wM am ca M ++ xs) (wM am ca (M') ++ xs) sz none) 0 0 (AL (wM am ca M ++ xs) sz) := by
  refine met_of (by decide) (Nat.le_of_ble_eq_true rfl) (fun p e s m args below meth c K hr0 X hsz ls hl => ?_)
  have K : MC D ca p s m args meth c cX8_readsAll 2 RX8 := K
  have hx := K.1
  have hb := K.2.1
  have hl : lv_has ls 2 [(0, .ref (am 0))] := hl
  generalize hQ : MQ below _ args s 0 0 _ = Q
  unfold f_X8_readsAll at h0
  suffices Z : ∀ (H : Heap) (locs : List Loc) (X : RW D (wM am ca M ++ xs) s.heap H locs), W p l e rm_X8_readsAll s m args below meth c H locs 0 0 Q (F0 m 0 ls []) from Z _ _ X
  intro H locs X
  have J123 : ∀ (M_123 : RowS) (H : Heap) (locs : List Loc) (X : RW D (wM am ca M_123 ++ xs) s.heap H locs) (ls : Array Slot) (hl : lv_has ls 2 []) (h0 : b_X8_readsAll_123 M_123 = some M'), W p l e rm_X8_readsAll s m args below meth c H locs 0 0 Q (F0 m 123 ls []) := by
    intro M_123 H locs X ls hl h0
    unfold b_X8_readsAll_123 at h0
    have h0 := Option.some.inj h0
    subst h0
    subst hQ
    exact w_vret K hr0 X wM_fstx hsz dX8_readsAll_123
  refine lv_aload_n hx hb dX8_readsAll_0 rfl (lv_at hl 0 rfl) ?_
  refine lv_ldc2 hx hb K.2.2.2.1 (K.2.2.2.2.1 _ q1554) dX8_readsAll_1 ?_
  obtain ⟨x1, ex1, h0⟩ := ob_out h0
  obtain ⟨Mv2, eMv2, h0⟩ := lt_out h0
  have kx1 := m_X8_passes l D ca am n M xs 101392390 x1.1 x1.2 ex1 H.size
  rw [← eMv2] at kx1
  refine w_callV0 K X wM_fstx kx1 hl.1 1 q1555 q1557 q30 q97 q1558 hv_X8_passes ⟨⟨Nat.le_of_ble_eq_true rfl, Nat.le_of_ble_eq_true rfl⟩, rfl, rfl⟩ pl_modo rfl rfl rfl rfl (Nat.le_of_ble_eq_true rfl) dX8_readsAll_4 ⟨Nat.le_of_ble_eq_true rfl, Nat.le_of_ble_eq_true rfl⟩ rfl (fun H locs X => ?_)
  refine w_zne (tgt := 17) K dX8_readsAll_7 (by decide) (fun c3 => ?_) (fun c3 => ?_)
  · have h0 := if_t c3 h0
    refine lv_aload_n hx hb dX8_readsAll_17 rfl (lv_at hl 0 rfl) ?_
    refine lv_iconst (v := 2) hx hb dX8_readsAll_18 (by decide) ?_
    refine lv_bipush (v := 8) hx hb dX8_readsAll_19 (by decide) ?_
    obtain ⟨x4, ex4, h0⟩ := ob_out h0
    obtain ⟨Mv5, eMv5, h0⟩ := lt_out h0
    have kx4 := m_X8_number l D ca am n Mv2 xs 2 8 x4.1 x4.2 ex4 H.size
    rw [← eMv5] at kx4
    refine w_callV0 K X wM_fstx kx4 hl.1 2 q1571 q1573 q34 q97 q1574 hv_X8_number ⟨⟨Nat.le_of_ble_eq_true rfl, Nat.le_of_ble_eq_true rfl⟩, rfl, rfl⟩ pl_modo rfl rfl rfl rfl (Nat.le_of_ble_eq_true rfl) dX8_readsAll_21 ⟨Nat.le_of_ble_eq_true rfl, Nat.le_of_ble_eq_true rfl⟩ rfl (fun H locs X => ?_)
    obtain ⟨x6, ex6, h0⟩ := lt_out h0
    refine w_int ex6 ?_
    refine lv_istore_n (lv' := [(1, .int x6), (0, .ref (am 0))]) hx hb dX8_readsAll_24 rfl hl (by decide) rfl (fun ls hl => ?_)
    refine lv_aload_n hx hb dX8_readsAll_25 rfl (lv_at hl 1 rfl) ?_
    refine lv_iload_n hx hb dX8_readsAll_26 rfl (lv_at hl 0 rfl) ?_
    refine lv_aload_n hx hb dX8_readsAll_27 rfl (lv_at hl 1 rfl) ?_
    refine lv_iconst (v := 0) hx hb dX8_readsAll_28 (by decide) ?_
    refine lv_ldc hx hb K.2.2.2.1 (K.2.2.2.2.1 _ q1575) dX8_readsAll_29 ?_
    obtain ⟨x7, ex7, h0⟩ := ob_out h0
    obtain ⟨Mv8, eMv8, h0⟩ := lt_out h0
    have kx7 := m_X8_number l D ca am n Mv5 xs 0 99999 x7.1 x7.2 ex7 H.size
    rw [← eMv8] at kx7
    refine w_callV0 K X wM_fstx kx7 hl.1 2 q1571 q1573 q34 q97 q1574 hv_X8_number ⟨⟨Nat.le_of_ble_eq_true rfl, Nat.le_of_ble_eq_true rfl⟩, rfl, rfl⟩ pl_modo rfl rfl rfl rfl (Nat.le_of_ble_eq_true rfl) dX8_readsAll_31 ⟨Nat.le_of_ble_eq_true rfl, Nat.le_of_ble_eq_true rfl⟩ rfl (fun H locs X => ?_)
    obtain ⟨x9, ex9, h0⟩ := ob_out h0
    obtain ⟨Mv10, eMv10, h0⟩ := lt_out h0
    have kx9 := m_X8_begins l D ca am n Mv8 xs x6 x7.1 x9 ex9 H.size
    rw [← eMv10] at kx9
    refine w_callV0 K X wM_fstx kx9 hl.1 2 q1391 q1393 q19 q97 q1394 hv_X8_begins ⟨⟨Nat.le_of_ble_eq_true rfl, Nat.le_of_ble_eq_true rfl⟩, rfl, rfl⟩ pl_modo rfl rfl rfl rfl (Nat.le_of_ble_eq_true rfl) dX8_readsAll_34 ⟨Nat.le_of_ble_eq_true rfl, Nat.le_of_ble_eq_true rfl⟩ rfl (fun H locs X => ?_)
    refine lv_aload_n hx hb dX8_readsAll_37 rfl (lv_at hl 1 rfl) ?_
    refine lv_bipush (v := 59) hx hb dX8_readsAll_38 (by decide) ?_
    obtain ⟨x11, ex11, h0⟩ := ob_out h0
    obtain ⟨Mv12, eMv12, h0⟩ := lt_out h0
    have kx11 := m_X8_must l D ca am n Mv10 xs 59 x11 ex11 H.size
    rw [← eMv12] at kx11
    refine w_callV0 K X wM_fstx kx11 hl.1 1 q1576 q1578 q35 q97 q1579 hv_X8_must ⟨⟨Nat.le_of_ble_eq_true rfl, Nat.le_of_ble_eq_true rfl⟩, rfl, rfl⟩ pl_modo rfl rfl rfl rfl (Nat.le_of_ble_eq_true rfl) dX8_readsAll_40 ⟨Nat.le_of_ble_eq_true rfl, Nat.le_of_ble_eq_true rfl⟩ rfl (fun H locs X => ?_)
    obtain ⟨e_1, he1, h0⟩ := ob_out h0
    have K43 : ∀ (k : Nat) (Mz_43 : RowS) (H : Heap) (locs : List Loc) (X : RW D (wM am ca Mz_43 ++ xs) s.heap H locs) (ls : Array Slot) (hl : lv_has ls 2 [(0, .ref (am 0))]) (hw : wloop (fun t => l_X8_readsAll_43 n t) k Mz_43 = some e_1), W p l e rm_X8_readsAll s m args below meth c H locs 0 0 Q (F0 m 43 ls []) := by
      intro k
      induction k with
      | zero => intro Mz_43 H locs X ls hl hw; exact (wloop_0 hw).elim
      | succ k ih1 =>
        intro Mz_43 H locs X ls hl hw
        obtain ⟨x_1, h1, hx1⟩ := wloop_out hw
        have h1 : l_X8_readsAll_43 n Mz_43 = some x_1 := h1
        unfold l_X8_readsAll_43 at h1
        have J114 : ∀ (M_114 : RowS) (H : Heap) (locs : List Loc) (X : RW D (wM am ca M_114 ++ xs) s.heap H locs) (ls : Array Slot) (hl : lv_has ls 2 [(0, .ref (am 0))]) (h1 : b_X8_readsAll_114 n M_114 = some x_1), W p l e rm_X8_readsAll s m args below meth c H locs 0 0 Q (F0 m 114 ls []) := by
          intro M_114 H locs X ls hl h1
          unfold b_X8_readsAll_114 at h1
          refine lv_aload_n hx hb dX8_readsAll_114 rfl (lv_at hl 0 rfl) ?_
          refine lv_bipush (v := 59) hx hb dX8_readsAll_115 (by decide) ?_
          obtain ⟨x26, ex26, h1⟩ := ob_out h1
          obtain ⟨Mv27, eMv27, h1⟩ := lt_out h1
          have kx26 := m_X8_must l D ca am n M_114 xs 59 x26 ex26 H.size
          rw [← eMv27] at kx26
          refine w_callV0 K X wM_fstx kx26 hl.1 1 q1576 q1578 q35 q97 q1579 hv_X8_must ⟨⟨Nat.le_of_ble_eq_true rfl, Nat.le_of_ble_eq_true rfl⟩, rfl, rfl⟩ pl_modo rfl rfl rfl rfl (Nat.le_of_ble_eq_true rfl) dX8_readsAll_117 ⟨Nat.le_of_ble_eq_true rfl, Nat.le_of_ble_eq_true rfl⟩ rfl (fun H locs X => ?_)
          refine lv_goto (tgt := 43) hx hb dX8_readsAll_120 (by decide) ?_
          exact ih1 Mv27 H locs X ls (lv_sub hl [0] rfl) (wl_l h1 hx1)
        refine lv_aload_n hx hb dX8_readsAll_43 rfl (lv_at hl 0 rfl) ?_
        obtain ⟨x13, ex13, h1⟩ := lt_out h1
        have kx13 := m_X8_isGood l D ca am Mz_43 xs x13 ex13.symm H.size
        refine w_callV0 K X wM_fstx kx13 hl.1 0 q1563 q1565 q32 q97 q1566 hv_X8_isGood ⟨⟨Nat.le_of_ble_eq_true rfl, Nat.le_of_ble_eq_true rfl⟩, rfl, rfl⟩ pl_modo rfl rfl rfl rfl (Nat.le_of_ble_eq_true rfl) dX8_readsAll_44 ⟨Nat.le_of_ble_eq_true rfl, Nat.le_of_ble_eq_true rfl⟩ rfl (fun H locs X => ?_)
        refine w_zeq (tgt := 123) K dX8_readsAll_47 (by decide) (fun c14 => ?_) (fun c14 => ?_)
        · have h1 := if_f c14 h1
          have q1 := wl_r h1 hx1
          exact J123 Mz_43 H locs X ls (lv_sub hl [] rfl) (by rw [q1] at h0; exact h0)
        · have h1 := if_t c14 h1
          refine lv_aload_n hx hb dX8_readsAll_50 rfl (lv_at hl 0 rfl) ?_
          refine g_modi K X 16 (by decide) (fun _ _ => rfl) q1415 dX8_readsAll_51 ?_
          refine lv_if_eq (tgt := 123) hx hb dX8_readsAll_54 (by decide) (fun c15 => ?_) (fun c15 => ?_)
          · have h1 := if_t c15 h1
            have q1 := wl_r h1 hx1
            exact J123 Mz_43 H locs X ls (lv_sub hl [] rfl) (by rw [q1] at h0; exact h0)
          · have h1 := if_f c15 h1
            refine lv_aload_n hx hb dX8_readsAll_57 rfl (lv_at hl 0 rfl) ?_
            refine lv_ldc2 hx hb K.2.2.2.1 (K.2.2.2.2.1 _ q1584) dX8_readsAll_58 ?_
            obtain ⟨x16, ex16, h1⟩ := lt_out h1
            have kx16 := m_X8_isWord l D ca am Mz_43 xs 409028 x16 ex16.symm H.size
            refine w_callV0 K X wM_fstx kx16 hl.1 1 q1559 q1561 q31 q97 q1562 hv_X8_isWord ⟨⟨Nat.le_of_ble_eq_true rfl, Nat.le_of_ble_eq_true rfl⟩, rfl, rfl⟩ pl_modo rfl rfl rfl rfl (Nat.le_of_ble_eq_true rfl) dX8_readsAll_61 ⟨Nat.le_of_ble_eq_true rfl, Nat.le_of_ble_eq_true rfl⟩ rfl (fun H locs X => ?_)
            refine w_zeq (tgt := 74) K dX8_readsAll_64 (by decide) (fun c17 => ?_) (fun c17 => ?_)
            · have h1 := if_f c17 h1
              refine lv_aload_n hx hb dX8_readsAll_74 rfl (lv_at hl 0 rfl) ?_
              refine lv_ldc2 hx hb K.2.2.2.1 (K.2.2.2.2.1 _ q1601) dX8_readsAll_75 ?_
              obtain ⟨x18, ex18, h1⟩ := ob_out h1
              obtain ⟨Mv19, eMv19, h1⟩ := lt_out h1
              have kx18 := m_X8_passes l D ca am n Mz_43 xs 8890 x18.1 x18.2 ex18 H.size
              rw [← eMv19] at kx18
              refine w_callV0 K X wM_fstx kx18 hl.1 1 q1555 q1557 q30 q97 q1558 hv_X8_passes ⟨⟨Nat.le_of_ble_eq_true rfl, Nat.le_of_ble_eq_true rfl⟩, rfl, rfl⟩ pl_modo rfl rfl rfl rfl (Nat.le_of_ble_eq_true rfl) dX8_readsAll_78 ⟨Nat.le_of_ble_eq_true rfl, Nat.le_of_ble_eq_true rfl⟩ rfl (fun H locs X => ?_)
              refine w_zeq (tgt := 91) K dX8_readsAll_81 (by decide) (fun c20 => ?_) (fun c20 => ?_)
              · have h1 := if_f c20 h1
                refine lv_aload_n hx hb dX8_readsAll_91 rfl (lv_at hl 0 rfl) ?_
                refine lv_ldc2 hx hb K.2.2.2.1 (K.2.2.2.2.1 _ q1606) dX8_readsAll_92 ?_
                obtain ⟨x21, ex21, h1⟩ := ob_out h1
                obtain ⟨Mv22, eMv22, h1⟩ := lt_out h1
                have kx21 := m_X8_passes l D ca am n Mv19 xs 174421451741 x21.1 x21.2 ex21 H.size
                rw [← eMv22] at kx21
                refine w_callV0 K X wM_fstx kx21 hl.1 1 q1555 q1557 q30 q97 q1558 hv_X8_passes ⟨⟨Nat.le_of_ble_eq_true rfl, Nat.le_of_ble_eq_true rfl⟩, rfl, rfl⟩ pl_modo rfl rfl rfl rfl (Nat.le_of_ble_eq_true rfl) dX8_readsAll_95 ⟨Nat.le_of_ble_eq_true rfl, Nat.le_of_ble_eq_true rfl⟩ rfl (fun H locs X => ?_)
                refine w_zeq (tgt := 108) K dX8_readsAll_98 (by decide) (fun c23 => ?_) (fun c23 => ?_)
                · have h1 := if_f c23 h1
                  refine lv_aload_n hx hb dX8_readsAll_108 rfl (lv_at hl 0 rfl) ?_
                  refine lv_iconst (v := 1) hx hb dX8_readsAll_109 (by decide) ?_
                  obtain ⟨x24, ex24, h1⟩ := lt_out h1
                  obtain ⟨Mv25, eMv25, h1⟩ := lt_out h1
                  have kx24 := m_X8_wrongs l D ca am Mv22 xs 1 x24.1 x24.2 ex24.symm H.size
                  rw [← eMv25] at kx24
                  refine w_callV0 K X wM_fstx kx24 hl.1 1 q1567 q1569 q33 q97 q1570 hv_X8_wrongs ⟨⟨Nat.le_of_ble_eq_true rfl, Nat.le_of_ble_eq_true rfl⟩, rfl, rfl⟩ pl_modo rfl rfl rfl rfl (Nat.le_of_ble_eq_true rfl) dX8_readsAll_110 ⟨Nat.le_of_ble_eq_true rfl, Nat.le_of_ble_eq_true rfl⟩ rfl (fun H locs X => ?_)
                  refine lv_pop hx hb dX8_readsAll_113 rfl ?_
                  exact J114 Mv25 H locs X ls (lv_sub hl [0] rfl) h1
                · have h1 := if_t c23 h1
                  refine lv_aload_n hx hb dX8_readsAll_101 rfl (lv_at hl 0 rfl) ?_
                  obtain ⟨x28, ex28, h1⟩ := ob_out h1
                  obtain ⟨Mv29, eMv29, h1⟩ := lt_out h1
                  have kx28 := m_X8_readsPressure l D ca am n Mv22 xs x28 ex28 H.size
                  rw [← eMv29] at kx28
                  refine w_callV0 K X wM_fstx kx28 hl.1 0 q1607 q1609 q41 q97 q1610 hv_X8_readsPressure ⟨⟨Nat.le_of_ble_eq_true rfl, Nat.le_of_ble_eq_true rfl⟩, rfl, rfl⟩ pl_modo rfl rfl rfl rfl (Nat.le_of_ble_eq_true rfl) dX8_readsAll_102 ⟨Nat.le_of_ble_eq_true rfl, Nat.le_of_ble_eq_true rfl⟩ rfl (fun H locs X => ?_)
                  refine lv_goto (tgt := 114) hx hb dX8_readsAll_105 (by decide) ?_
                  exact J114 Mv29 H locs X ls (lv_sub hl [0] rfl) h1
              · have h1 := if_t c20 h1
                refine lv_aload_n hx hb dX8_readsAll_84 rfl (lv_at hl 0 rfl) ?_
                obtain ⟨x30, ex30, h1⟩ := ob_out h1
                obtain ⟨Mv31, eMv31, h1⟩ := lt_out h1
                have kx30 := m_X8_readsLeg l D ca am n Mv19 xs x30 ex30 H.size
                rw [← eMv31] at kx30
                refine w_callV0 K X wM_fstx kx30 hl.1 0 q1602 q1604 q40 q97 q1605 hv_X8_readsLeg ⟨⟨Nat.le_of_ble_eq_true rfl, Nat.le_of_ble_eq_true rfl⟩, rfl, rfl⟩ pl_modo rfl rfl rfl rfl (Nat.le_of_ble_eq_true rfl) dX8_readsAll_85 ⟨Nat.le_of_ble_eq_true rfl, Nat.le_of_ble_eq_true rfl⟩ rfl (fun H locs X => ?_)
                refine lv_goto (tgt := 114) hx hb dX8_readsAll_88 (by decide) ?_
                exact J114 Mv31 H locs X ls (lv_sub hl [0] rfl) h1
            · have h1 := if_t c17 h1
              refine lv_aload_n hx hb dX8_readsAll_67 rfl (lv_at hl 0 rfl) ?_
              obtain ⟨x32, ex32, h1⟩ := ob_out h1
              obtain ⟨Mv33, eMv33, h1⟩ := lt_out h1
              have kx32 := m_X8_readsTube l D ca am n Mz_43 xs x32 ex32 H.size
              rw [← eMv33] at kx32
              refine w_callV0 K X wM_fstx kx32 hl.1 0 q1585 q1587 q37 q97 q1588 hv_X8_readsTube ⟨⟨Nat.le_of_ble_eq_true rfl, Nat.le_of_ble_eq_true rfl⟩, rfl, rfl⟩ pl_modo rfl rfl rfl rfl (Nat.le_of_ble_eq_true rfl) dX8_readsAll_68 ⟨Nat.le_of_ble_eq_true rfl, Nat.le_of_ble_eq_true rfl⟩ rfl (fun H locs X => ?_)
              refine lv_goto (tgt := 114) hx hb dX8_readsAll_71 (by decide) ?_
              exact J114 Mv33 H locs X ls (lv_sub hl [0] rfl) h1
    exact K43 n Mv12 H locs X ls (lv_sub hl [1] rfl) he1
  · have h0 := if_f c3 h0
    refine lv_aload_n hx hb dX8_readsAll_10 rfl (lv_at hl 0 rfl) ?_
    refine lv_iconst (v := 1) hx hb dX8_readsAll_11 (by decide) ?_
    obtain ⟨x34, ex34, h0⟩ := lt_out h0
    obtain ⟨Mv35, eMv35, h0⟩ := lt_out h0
    have kx34 := m_X8_wrongs l D ca am Mv2 xs 1 x34.1 x34.2 ex34.symm H.size
    rw [← eMv35] at kx34
    refine w_callV0 K X wM_fstx kx34 hl.1 1 q1567 q1569 q33 q97 q1570 hv_X8_wrongs ⟨⟨Nat.le_of_ble_eq_true rfl, Nat.le_of_ble_eq_true rfl⟩, rfl, rfl⟩ pl_modo rfl rfl rfl rfl (Nat.le_of_ble_eq_true rfl) dX8_readsAll_12 ⟨Nat.le_of_ble_eq_true rfl, Nat.le_of_ble_eq_true rfl⟩ rfl (fun H locs X => ?_)
    refine lv_pop hx hb dX8_readsAll_15 rfl ?_
    have h0 := Option.some.inj h0
    subst h0
    subst hQ
    exact w_vret K hr0 X wM_fstx hsz dX8_readsAll_16
-- X8_of
def f_X8_of (M : RowS) (a1 : Int32) (a2 : Int32) : Option Int32 :=
  lt (f_X8_cell a1 a2) fun x1 =>
  if 0 ≤ x1.toInt ∧ x1.toInt < 102 then
    some (M.1 1 x1.toNatClampNeg)
  else none
abbrev rm_X8_of : Room := { frames := 1, cells := 0, slots := 0, locals := 21 }
set_option maxRecDepth 100000 in
set_option maxHeartbeats 4000000 in
theorem m_X8_of (l : Launch) (D : va_G) (ca : Nat → ClassId) (am : Nat → Nat) (M : RowS) (xs : va_W) (a1 : Int32) (a2 : Int32) (res : Int32) (h0 : f_X8_of M a1 a2 = some res) (sz : Nat) : Met l yX8_of (ws_ yX8_of cX8_of 3 (some .int)) rm_X8_of (PCw D ca (wM am ca M ++ xs) sz [.ref (am 0), .int a1, .int a2]) (QMw D (wM am ca M ++ xs) (wM am ca M ++ xs) sz (some (.int res))) 0 0 (AL (wM am ca M ++ xs) sz) := by
  refine met_of (by decide) (Nat.le_of_ble_eq_true rfl) (fun p e s m args below meth c K hr0 X hsz ls hl => ?_)
  have K : MC D ca p s m args meth c cX8_of 3 RX8 := K
  have hx := K.1
  have hb := K.2.1
  have hl : lv_has ls 3 [(0, .ref (am 0)), (1, .int a1), (2, .int a2)] := hl
  generalize hQ : MQ below _ args s 0 0 _ = Q
  unfold f_X8_of at h0
  suffices Z : ∀ (H : Heap) (locs : List Loc) (X : RW D (wM am ca M ++ xs) s.heap H locs), W p l e rm_X8_of s m args below meth c H locs 0 0 Q (F0 m 0 ls []) from Z _ _ X
  intro H locs X
  refine lv_aload_n hx hb dX8_of_0 rfl (lv_at hl 0 rfl) ?_
  refine g_modr K X 1 (by decide) (fun _ _ => rfl) q1400 dX8_of_1 ?_
  refine lv_iload_n hx hb dX8_of_4 rfl (lv_at hl 1 rfl) ?_
  refine lv_iload_n hx hb dX8_of_5 rfl (lv_at hl 2 rfl) ?_
  obtain ⟨x1, ex1, h0⟩ := lt_out h0
  have kx1 := m_X8_cell l D ca (wM am ca M ++ xs) a1 a2 x1 ex1.symm H.size
  refine w_callS0 K X wM_fstx kx1 hl.1 2 q1598 q1599 q97 q1600 hs_X8_cell ⟨⟨Nat.le_of_ble_eq_true rfl, Nat.le_of_ble_eq_true rfl⟩, rfl, rfl⟩ rfl rfl (Nat.le_of_ble_eq_true rfl) dX8_of_6 ⟨Nat.le_of_ble_eq_true rfl, Nat.le_of_ble_eq_true rfl⟩ rfl (fun H locs X => ?_)
  obtain ⟨c2, h0⟩ := if_o h0
  refine a_modi K X 1 1 102 rfl rfl (inb_vp c2) dX8_of_9 ?_
  have h0 := Option.some.inj h0
  subst h0
  subst hQ
  exact w_iret K hr0 X wM_fstx hsz dX8_of_10
-- X8_many
def b_X8_many_39  (y39_l2 : Int32) : Option Int32 :=
  some y39_l2
def b_X8_many_31  (y31_l3 : Int32) (y31_s0 : Int32) (y31_s1 : Int32) : Option ((Int32 × Int32) ⊕ Int32) :=
  lt (y31_s0 + y31_s1) fun x5 =>
  lt (y31_l3 + 1) fun x6 =>
  some (.inl (x5, x6))
def l_X8_many_4 (M : RowS) (a1 : Int32) (z4_2 : Int32) (z4_3 : Int32) : Option ((Int32 × Int32) ⊕ Int32) :=
  if 0 ≤ (2 : Int32).toInt ∧ (2 : Int32).toInt < 102 then
    if (M.1 1 (2 : Int32).toNatClampNeg) ≤ z4_3 then
      some (.inr z4_2)
    else
      ob (f_X8_of M z4_3 6) fun x3 =>
      if x3 = a1 then
        b_X8_many_31 z4_3 z4_2 1
      else
        b_X8_many_31 z4_3 z4_2 0
  else none
def f_X8_many (n : Nat) (M : RowS) (a1 : Int32) : Option Int32 :=
  ob (wloop (fun t => l_X8_many_4 M a1 t.1 t.2) n (0, 0)) (fun t => b_X8_many_39 t)
abbrev rm_X8_many : Room := { frames := 2, cells := 0, slots := 0, locals := 43 }
set_option maxRecDepth 100000 in
set_option maxHeartbeats 4000000 in
theorem m_X8_many (l : Launch) (D : va_G) (ca : Nat → ClassId) (am : Nat → Nat) (n : Nat) (M : RowS) (xs : va_W) (a1 : Int32) (res : Int32) (h0 : f_X8_many n M a1 = some res) (sz : Nat) : Met l yX8_many (ws_ yX8_many cX8_many 4 (some .int)) rm_X8_many (PCw D ca (wM am ca M ++ xs) sz [.ref (am 0), .int a1]) (QMw D (wM am ca M ++ xs) (wM am ca M ++ xs) sz (some (.int res))) 0 0 (AL (wM am ca M ++ xs) sz) := by
  refine met_of (by decide) (Nat.le_of_ble_eq_true rfl) (fun p e s m args below meth c K hr0 X hsz ls hl => ?_)
  have K : MC D ca p s m args meth c cX8_many 4 RX8 := K
  have hx := K.1
  have hb := K.2.1
  have hl : lv_has ls 4 [(0, .ref (am 0)), (1, .int a1)] := hl
  generalize hQ : MQ below _ args s 0 0 _ = Q
  unfold f_X8_many at h0
  suffices Z : ∀ (H : Heap) (locs : List Loc) (X : RW D (wM am ca M ++ xs) s.heap H locs), W p l e rm_X8_many s m args below meth c H locs 0 0 Q (F0 m 0 ls []) from Z _ _ X
  intro H locs X
  have J39 : ∀ (y39_l2 : Int32) (H : Heap) (locs : List Loc) (X : RW D (wM am ca M ++ xs) s.heap H locs) (ls : Array Slot) (hl : lv_has ls 4 [(2, .int y39_l2)]) (h0 : b_X8_many_39 y39_l2 = some res), W p l e rm_X8_many s m args below meth c H locs 0 0 Q (F0 m 39 ls []) := by
    intro y39_l2 H locs X ls hl h0
    unfold b_X8_many_39 at h0
    refine lv_iload_n hx hb dX8_many_39 rfl (lv_at hl 0 rfl) ?_
    have h0 := Option.some.inj h0
    subst h0
    subst hQ
    exact w_iret K hr0 X wM_fstx hsz dX8_many_40
  refine lv_iconst (v := 0) hx hb dX8_many_0 (by decide) ?_
  refine lv_istore_n (lv' := [(2, .int 0), (0, .ref (am 0)), (1, .int a1)]) hx hb dX8_many_1 rfl hl (by decide) rfl (fun ls hl => ?_)
  refine lv_iconst (v := 0) hx hb dX8_many_2 (by decide) ?_
  refine lv_istore_n (lv' := [(3, .int 0), (2, .int 0), (0, .ref (am 0)), (1, .int a1)]) hx hb dX8_many_3 rfl hl (by decide) rfl (fun ls hl => ?_)
  obtain ⟨e_1, he1, h0⟩ := ob_out h0
  have K4 : ∀ (k : Nat) (z4_2 : Int32) (z4_3 : Int32) (H : Heap) (locs : List Loc) (X : RW D (wM am ca M ++ xs) s.heap H locs) (ls : Array Slot) (hl : lv_has ls 4 [(0, .ref (am 0)), (1, .int a1), (2, .int z4_2), (3, .int z4_3)]) (hw : wloop (fun t => l_X8_many_4 M a1 t.1 t.2) k (z4_2, z4_3) = some e_1), W p l e rm_X8_many s m args below meth c H locs 0 0 Q (F0 m 4 ls []) := by
    intro k
    induction k with
    | zero => intro z4_2 z4_3 H locs X ls hl hw; exact (wloop_0 hw).elim
    | succ k ih1 =>
      intro z4_2 z4_3 H locs X ls hl hw
      obtain ⟨x_1, h1, hx1⟩ := wloop_out hw
      have h1 : l_X8_many_4 M a1 z4_2 z4_3 = some x_1 := h1
      unfold l_X8_many_4 at h1
      have J31 : ∀ (y31_l3 : Int32) (y31_s0 : Int32) (y31_s1 : Int32) (H : Heap) (locs : List Loc) (X : RW D (wM am ca M ++ xs) s.heap H locs) (ls : Array Slot) (hl : lv_has ls 4 [(0, .ref (am 0)), (1, .int a1), (3, .int y31_l3)]) (h1 : b_X8_many_31 y31_l3 y31_s0 y31_s1 = some x_1), W p l e rm_X8_many s m args below meth c H locs 0 0 Q (F0 m 31 ls [.int y31_s1, .int y31_s0]) := by
        intro y31_l3 y31_s0 y31_s1 H locs X ls hl h1
        unfold b_X8_many_31 at h1
        refine lv_iadd hx hb dX8_many_31 ?_
        obtain ⟨x5, ex5, h1⟩ := lt_out h1
        refine w_int ex5 ?_
        refine lv_istore_n (lv' := [(2, .int x5), (0, .ref (am 0)), (1, .int a1), (3, .int y31_l3)]) hx hb dX8_many_32 rfl hl (by decide) rfl (fun ls hl => ?_)
        obtain ⟨x6, ex6, h1⟩ := lt_out h1
        refine lv_iinc (v := x6) (lv' := [(3, .int x6), (2, .int x5), (0, .ref (am 0)), (1, .int a1)]) hx hb dX8_many_33 hl (k := 3) rfl (by rw [ex6]; rfl) (by decide) rfl (fun ls hl => ?_)
        refine lv_goto (tgt := 4) hx hb dX8_many_36 (by decide) ?_
        exact ih1 x5 x6 H locs X ls (lv_sub hl [2, 3, 1, 0] rfl) (wl_l h1 hx1)
      refine lv_iload_n hx hb dX8_many_4 rfl (lv_at hl 3 rfl) ?_
      refine lv_aload_n hx hb dX8_many_5 rfl (lv_at hl 0 rfl) ?_
      refine g_modr K X 1 (by decide) (fun _ _ => rfl) q1400 dX8_many_6 ?_
      refine lv_iconst (v := 2) hx hb dX8_many_9 (by decide) ?_
      obtain ⟨c1, h1⟩ := if_o h1
      refine a_modi K X 1 1 102 rfl rfl (inb_vp c1) dX8_many_10 ?_
      refine lv_icmp_ge (tgt := 39) hx hb dX8_many_11 (by decide) (fun c2 => ?_) (fun c2 => ?_)
      · have h1 := if_t c2 h1
        have q1 := wl_r h1 hx1
        exact J39 z4_2 H locs X ls (lv_sub hl [2] rfl) (by rw [q1] at h0; exact h0)
      · have h1 := if_f c2 h1
        refine lv_iload_n hx hb dX8_many_14 rfl (lv_at hl 2 rfl) ?_
        refine lv_aload_n hx hb dX8_many_15 rfl (lv_at hl 0 rfl) ?_
        refine lv_iload_n hx hb dX8_many_16 rfl (lv_at hl 3 rfl) ?_
        refine lv_bipush (v := 6) hx hb dX8_many_17 (by decide) ?_
        obtain ⟨x3, ex3, h1⟩ := ob_out h1
        have kx3 := m_X8_of l D ca am M xs z4_3 6 x3 ex3 H.size
        refine w_callV0 K X wM_fstx kx3 hl.1 2 q1631 q1633 q47 q97 q1634 hv_X8_of ⟨⟨Nat.le_of_ble_eq_true rfl, Nat.le_of_ble_eq_true rfl⟩, rfl, rfl⟩ pl_modo rfl rfl rfl rfl (Nat.le_of_ble_eq_true rfl) dX8_many_19 ⟨Nat.le_of_ble_eq_true rfl, Nat.le_of_ble_eq_true rfl⟩ rfl (fun H locs X => ?_)
        refine lv_iload_n hx hb dX8_many_22 rfl (lv_at hl 1 rfl) ?_
        refine lv_icmp_ne (tgt := 30) hx hb dX8_many_23 (by decide) (fun c4 => ?_) (fun c4 => ?_)
        · have h1 := if_f c4 h1
          refine lv_iconst (v := 0) hx hb dX8_many_30 (by decide) ?_
          exact J31 z4_3 z4_2 0 H locs X ls (lv_sub hl [0, 1, 3] rfl) h1
        · have h1 := if_t c4 h1
          refine lv_iconst (v := 1) hx hb dX8_many_26 (by decide) ?_
          refine lv_goto (tgt := 31) hx hb dX8_many_27 (by decide) ?_
          exact J31 z4_3 z4_2 1 H locs X ls (lv_sub hl [0, 1, 3] rfl) h1
  exact K4 n 0 0 H locs X ls (lv_sub hl [2, 3, 1, 0] rfl) he1
-- X8_fullOf
def f_X8_fullOf (M : RowS) (a1 : Int32) : Option Int32 :=
  ob (f_X8_of M a1 4) fun x1 =>
  some (100 * x1)
abbrev rm_X8_fullOf : Room := { frames := 2, cells := 0, slots := 0, locals := 43 }
set_option maxRecDepth 100000 in
set_option maxHeartbeats 4000000 in
theorem m_X8_fullOf (l : Launch) (D : va_G) (ca : Nat → ClassId) (am : Nat → Nat) (M : RowS) (xs : va_W) (a1 : Int32) (res : Int32) (h0 : f_X8_fullOf M a1 = some res) (sz : Nat) : Met l yX8_fullOf (ws_ yX8_fullOf cX8_fullOf 2 (some .int)) rm_X8_fullOf (PCw D ca (wM am ca M ++ xs) sz [.ref (am 0), .int a1]) (QMw D (wM am ca M ++ xs) (wM am ca M ++ xs) sz (some (.int res))) 0 0 (AL (wM am ca M ++ xs) sz) := by
  refine met_of (by decide) (Nat.le_of_ble_eq_true rfl) (fun p e s m args below meth c K hr0 X hsz ls hl => ?_)
  have K : MC D ca p s m args meth c cX8_fullOf 2 RX8 := K
  have hx := K.1
  have hb := K.2.1
  have hl : lv_has ls 2 [(0, .ref (am 0)), (1, .int a1)] := hl
  generalize hQ : MQ below _ args s 0 0 _ = Q
  unfold f_X8_fullOf at h0
  suffices Z : ∀ (H : Heap) (locs : List Loc) (X : RW D (wM am ca M ++ xs) s.heap H locs), W p l e rm_X8_fullOf s m args below meth c H locs 0 0 Q (F0 m 0 ls []) from Z _ _ X
  intro H locs X
  refine lv_bipush (v := 100) hx hb dX8_fullOf_0 (by decide) ?_
  refine lv_aload_n hx hb dX8_fullOf_2 rfl (lv_at hl 0 rfl) ?_
  refine lv_iload_n hx hb dX8_fullOf_3 rfl (lv_at hl 1 rfl) ?_
  refine lv_iconst (v := 4) hx hb dX8_fullOf_4 (by decide) ?_
  obtain ⟨x1, ex1, h0⟩ := ob_out h0
  have kx1 := m_X8_of l D ca am M xs a1 4 x1 ex1 H.size
  refine w_callV0 K X wM_fstx kx1 hl.1 2 q1631 q1633 q47 q97 q1634 hv_X8_of ⟨⟨Nat.le_of_ble_eq_true rfl, Nat.le_of_ble_eq_true rfl⟩, rfl, rfl⟩ pl_modo rfl rfl rfl rfl (Nat.le_of_ble_eq_true rfl) dX8_fullOf_5 ⟨Nat.le_of_ble_eq_true rfl, Nat.le_of_ble_eq_true rfl⟩ rfl (fun H locs X => ?_)
  refine lv_imul hx hb dX8_fullOf_8 ?_
  have h0 := Option.some.inj h0
  subst h0
  subst hQ
  exact w_iret K hr0 X wM_fstx hsz dX8_fullOf_9
-- X8_isWhole
def f_X8_isWhole (M : RowS) (a1 : Int32) : Option Bool :=
  ob (f_X8_of M a1 6) fun x1 =>
  if x1 = 0 then
    some true
  else
    some false
abbrev rm_X8_isWhole : Room := { frames := 2, cells := 0, slots := 0, locals := 43 }
set_option maxRecDepth 100000 in
set_option maxHeartbeats 4000000 in
theorem m_X8_isWhole (l : Launch) (D : va_G) (ca : Nat → ClassId) (am : Nat → Nat) (M : RowS) (xs : va_W) (a1 : Int32) (res : Bool) (h0 : f_X8_isWhole M a1 = some res) (sz : Nat) : Met l yX8_isWhole (ws_ yX8_isWhole cX8_isWhole 2 (some .boolean)) rm_X8_isWhole (PCw D ca (wM am ca M ++ xs) sz [.ref (am 0), .int a1]) (QMw D (wM am ca M ++ xs) (wM am ca M ++ xs) sz (some (.int (b2i res)))) 0 0 (AL (wM am ca M ++ xs) sz) := by
  refine met_of (by decide) (Nat.le_of_ble_eq_true rfl) (fun p e s m args below meth c K hr0 X hsz ls hl => ?_)
  have K : MC D ca p s m args meth c cX8_isWhole 2 RX8 := K
  have hx := K.1
  have hb := K.2.1
  have hl : lv_has ls 2 [(0, .ref (am 0)), (1, .int a1)] := hl
  generalize hQ : MQ below _ args s 0 0 _ = Q
  unfold f_X8_isWhole at h0
  suffices Z : ∀ (H : Heap) (locs : List Loc) (X : RW D (wM am ca M ++ xs) s.heap H locs), W p l e rm_X8_isWhole s m args below meth c H locs 0 0 Q (F0 m 0 ls []) from Z _ _ X
  intro H locs X
  refine lv_aload_n hx hb dX8_isWhole_0 rfl (lv_at hl 0 rfl) ?_
  refine lv_iload_n hx hb dX8_isWhole_1 rfl (lv_at hl 1 rfl) ?_
  refine lv_bipush (v := 6) hx hb dX8_isWhole_2 (by decide) ?_
  obtain ⟨x1, ex1, h0⟩ := ob_out h0
  have kx1 := m_X8_of l D ca am M xs a1 6 x1 ex1 H.size
  refine w_callV0 K X wM_fstx kx1 hl.1 2 q1631 q1633 q47 q97 q1634 hv_X8_of ⟨⟨Nat.le_of_ble_eq_true rfl, Nat.le_of_ble_eq_true rfl⟩, rfl, rfl⟩ pl_modo rfl rfl rfl rfl (Nat.le_of_ble_eq_true rfl) dX8_isWhole_4 ⟨Nat.le_of_ble_eq_true rfl, Nat.le_of_ble_eq_true rfl⟩ rfl (fun H locs X => ?_)
  refine lv_if_ne (tgt := 14) hx hb dX8_isWhole_7 (by decide) (fun c2 => ?_) (fun c2 => ?_)
  · have h0 := if_f c2 h0
    refine lv_iconst (v := 0) hx hb dX8_isWhole_14 (by decide) ?_
    have h0 := Option.some.inj h0
    subst h0
    subst hQ
    refine w_int (y := b2i false) (by decide) ?_
    exact w_zret K hr0 X wM_fstx hsz (b2i_nar _) dX8_isWhole_15
  · have h0 := if_t c2 h0
    refine lv_iconst (v := 1) hx hb dX8_isWhole_10 (by decide) ?_
    refine lv_goto (tgt := 15) hx hb dX8_isWhole_11 (by decide) ?_
    have h0 := Option.some.inj h0
    subst h0
    subst hQ
    refine w_int (y := b2i true) (by decide) ?_
    exact w_zret K hr0 X wM_fstx hsz (b2i_nar _) dX8_isWhole_15
-- X8_floors
def f_X8_floors (a1 : Int64) (a2 : Int64) : Option Int64 :=
  if ¬ a2 = 0 then
    lt (a1 / a2) fun x2 =>
    if 0 ≤ (a1 - a1 / a2 * a2) then
      some x2
    else
      some (x2 - 1)
  else none
abbrev rm_X8_floors : Room := { frames := 0, cells := 0, slots := 0, locals := 0 }
set_option maxRecDepth 100000 in
set_option maxHeartbeats 4000000 in
theorem m_X8_floors (l : Launch) (D : va_G) (ca : Nat → ClassId) (ws : va_W) (a1 : Int64) (a2 : Int64) (res : Int64) (h0 : f_X8_floors a1 a2 = some res) (sz : Nat) : Met l yX8_floors (ws_ yX8_floors cX8_floors 6 (some .long)) rm_X8_floors (PCw D ca (ws) sz [.long a1, .long a2]) (QMw D (ws) (ws) sz (some (.long res))) 0 0 (AL (ws) sz) := by
  refine met_of (by decide) (Nat.le_of_ble_eq_true rfl) (fun p e s m args below meth c K hr0 X hsz ls hl => ?_)
  have K : MC D ca p s m args meth c cX8_floors 6 RX8 := K
  have hx := K.1
  have hb := K.2.1
  have hl : lv_has ls 6 [(0, .long a1), (2, .long a2)] := hl
  generalize hQ : MQ below _ args s 0 0 _ = Q
  unfold f_X8_floors at h0
  suffices Z : ∀ (H : Heap) (locs : List Loc) (X : RW D (ws) s.heap H locs), W p l e rm_X8_floors s m args below meth c H locs 0 0 Q (F0 m 0 ls []) from Z _ _ X
  intro H locs X
  refine lv_lload_n hx hb dX8_floors_0 rfl (lv_at hl 0 rfl) ?_
  refine lv_lload_n hx hb dX8_floors_1 rfl (lv_at hl 1 rfl) ?_
  obtain ⟨c1, h0⟩ := if_o h0
  refine lv_ldiv hx hb dX8_floors_2 c1 ?_
  obtain ⟨x2, ex2, h0⟩ := lt_out h0
  refine w_long ex2 ?_
  refine lv_lstore (lv' := [(4, .long x2), (0, .long a1), (2, .long a2)]) hx hb dX8_floors_3 hl (by decide) rfl (fun ls hl => ?_)
  refine lv_lload_n hx hb dX8_floors_5 rfl (lv_at hl 1 rfl) ?_
  refine lv_lload_n hx hb dX8_floors_6 rfl (lv_at hl 2 rfl) ?_
  refine lv_lrem hx hb dX8_floors_7 c1 ?_
  refine lv_lconst (v := 0) hx hb dX8_floors_8 (by decide) ?_
  refine w_bge (tgt := 20) K dX8_floors_9 dX8_floors_10 (by decide) (fun c3 => ?_) (fun c3 => ?_)
  · have h0 := if_t c3 h0
    refine lv_lload hx hb dX8_floors_20 (lv_at hl 0 rfl) ?_
    have h0 := Option.some.inj h0
    subst h0
    subst hQ
    exact w_lret K hr0 X rfl hsz dX8_floors_22
  · have h0 := if_f c3 h0
    refine lv_lload hx hb dX8_floors_13 (lv_at hl 0 rfl) ?_
    refine lv_lconst (v := 1) hx hb dX8_floors_15 (by decide) ?_
    refine lv_lsub hx hb dX8_floors_16 ?_
    refine lv_goto (tgt := 22) hx hb dX8_floors_17 (by decide) ?_
    have h0 := Option.some.inj h0
    subst h0
    subst hQ
    exact w_lret K hr0 X rfl hsz dX8_floors_22
-- X8_ofLeg
def f_X8_ofLeg (M : RowS) (a1 : Int32) (a2 : Int32) : Option Int32 :=
  if 0 ≤ ((12 + (3 * a1)) + a2).toInt ∧ ((12 + (3 * a1)) + a2).toInt < 102 then
    some (M.1 1 ((12 + (3 * a1)) + a2).toNatClampNeg)
  else none
abbrev rm_X8_ofLeg : Room := { frames := 0, cells := 0, slots := 0, locals := 0 }
set_option maxRecDepth 100000 in
set_option maxHeartbeats 4000000 in
theorem m_X8_ofLeg (l : Launch) (D : va_G) (ca : Nat → ClassId) (am : Nat → Nat) (M : RowS) (xs : va_W) (a1 : Int32) (a2 : Int32) (res : Int32) (h0 : f_X8_ofLeg M a1 a2 = some res) (sz : Nat) : Met l yX8_ofLeg (ws_ yX8_ofLeg cX8_ofLeg 3 (some .int)) rm_X8_ofLeg (PCw D ca (wM am ca M ++ xs) sz [.ref (am 0), .int a1, .int a2]) (QMw D (wM am ca M ++ xs) (wM am ca M ++ xs) sz (some (.int res))) 0 0 (AL (wM am ca M ++ xs) sz) := by
  refine met_of (by decide) (Nat.le_of_ble_eq_true rfl) (fun p e s m args below meth c K hr0 X hsz ls hl => ?_)
  have K : MC D ca p s m args meth c cX8_ofLeg 3 RX8 := K
  have hx := K.1
  have hb := K.2.1
  have hl : lv_has ls 3 [(0, .ref (am 0)), (1, .int a1), (2, .int a2)] := hl
  generalize hQ : MQ below _ args s 0 0 _ = Q
  unfold f_X8_ofLeg at h0
  suffices Z : ∀ (H : Heap) (locs : List Loc) (X : RW D (wM am ca M ++ xs) s.heap H locs), W p l e rm_X8_ofLeg s m args below meth c H locs 0 0 Q (F0 m 0 ls []) from Z _ _ X
  intro H locs X
  refine lv_aload_n hx hb dX8_ofLeg_0 rfl (lv_at hl 0 rfl) ?_
  refine g_modr K X 1 (by decide) (fun _ _ => rfl) q1400 dX8_ofLeg_1 ?_
  refine lv_bipush (v := 12) hx hb dX8_ofLeg_4 (by decide) ?_
  refine lv_iconst (v := 3) hx hb dX8_ofLeg_6 (by decide) ?_
  refine lv_iload_n hx hb dX8_ofLeg_7 rfl (lv_at hl 1 rfl) ?_
  refine lv_imul hx hb dX8_ofLeg_8 ?_
  refine lv_iadd hx hb dX8_ofLeg_9 ?_
  refine lv_iload_n hx hb dX8_ofLeg_10 rfl (lv_at hl 2 rfl) ?_
  refine lv_iadd hx hb dX8_ofLeg_11 ?_
  obtain ⟨c1, h0⟩ := if_o h0
  refine a_modi K X 1 1 102 rfl rfl (inb_vp c1) dX8_ofLeg_12 ?_
  have h0 := Option.some.inj h0
  subst h0
  subst hQ
  exact w_iret K hr0 X wM_fstx hsz dX8_ofLeg_13
-- X8_volumeFor
def f_X8_volumeFor (M : RowS) (a1 : Int32) (a2 : Int64) : Option Int64 :=
  ob (f_X8_of M a1 2) fun x1 =>
  ob (f_X8_of M a1 2) fun x2 =>
  some ((a2 * x1.toInt64) * x2.toInt64)
abbrev rm_X8_volumeFor : Room := { frames := 2, cells := 0, slots := 0, locals := 43 }
set_option maxRecDepth 100000 in
set_option maxHeartbeats 4000000 in
theorem m_X8_volumeFor (l : Launch) (D : va_G) (ca : Nat → ClassId) (am : Nat → Nat) (M : RowS) (xs : va_W) (a1 : Int32) (a2 : Int64) (res : Int64) (h0 : f_X8_volumeFor M a1 a2 = some res) (sz : Nat) : Met l yX8_volumeFor (ws_ yX8_volumeFor cX8_volumeFor 4 (some .long)) rm_X8_volumeFor (PCw D ca (wM am ca M ++ xs) sz [.ref (am 0), .int a1, .long a2]) (QMw D (wM am ca M ++ xs) (wM am ca M ++ xs) sz (some (.long res))) 0 0 (AL (wM am ca M ++ xs) sz) := by
  refine met_of (by decide) (Nat.le_of_ble_eq_true rfl) (fun p e s m args below meth c K hr0 X hsz ls hl => ?_)
  have K : MC D ca p s m args meth c cX8_volumeFor 4 RX8 := K
  have hx := K.1
  have hb := K.2.1
  have hl : lv_has ls 4 [(0, .ref (am 0)), (1, .int a1), (2, .long a2)] := hl
  generalize hQ : MQ below _ args s 0 0 _ = Q
  unfold f_X8_volumeFor at h0
  suffices Z : ∀ (H : Heap) (locs : List Loc) (X : RW D (wM am ca M ++ xs) s.heap H locs), W p l e rm_X8_volumeFor s m args below meth c H locs 0 0 Q (F0 m 0 ls []) from Z _ _ X
  intro H locs X
  refine lv_lload_n hx hb dX8_volumeFor_0 rfl (lv_at hl 2 rfl) ?_
  refine lv_aload_n hx hb dX8_volumeFor_1 rfl (lv_at hl 0 rfl) ?_
  refine lv_iload_n hx hb dX8_volumeFor_2 rfl (lv_at hl 1 rfl) ?_
  refine lv_iconst (v := 2) hx hb dX8_volumeFor_3 (by decide) ?_
  obtain ⟨x1, ex1, h0⟩ := ob_out h0
  have kx1 := m_X8_of l D ca am M xs a1 2 x1 ex1 H.size
  refine w_callV0 K X wM_fstx kx1 hl.1 2 q1631 q1633 q47 q97 q1634 hv_X8_of ⟨⟨Nat.le_of_ble_eq_true rfl, Nat.le_of_ble_eq_true rfl⟩, rfl, rfl⟩ pl_modo rfl rfl rfl rfl (Nat.le_of_ble_eq_true rfl) dX8_volumeFor_4 ⟨Nat.le_of_ble_eq_true rfl, Nat.le_of_ble_eq_true rfl⟩ rfl (fun H locs X => ?_)
  refine lv_i2l hx hb dX8_volumeFor_7 rfl ?_
  refine lv_lmul hx hb dX8_volumeFor_8 ?_
  refine lv_aload_n hx hb dX8_volumeFor_9 rfl (lv_at hl 0 rfl) ?_
  refine lv_iload_n hx hb dX8_volumeFor_10 rfl (lv_at hl 1 rfl) ?_
  refine lv_iconst (v := 2) hx hb dX8_volumeFor_11 (by decide) ?_
  obtain ⟨x2, ex2, h0⟩ := ob_out h0
  have kx2 := m_X8_of l D ca am M xs a1 2 x2 ex2 H.size
  refine w_callV0 K X wM_fstx kx2 hl.1 2 q1631 q1633 q47 q97 q1634 hv_X8_of ⟨⟨Nat.le_of_ble_eq_true rfl, Nat.le_of_ble_eq_true rfl⟩, rfl, rfl⟩ pl_modo rfl rfl rfl rfl (Nat.le_of_ble_eq_true rfl) dX8_volumeFor_12 ⟨Nat.le_of_ble_eq_true rfl, Nat.le_of_ble_eq_true rfl⟩ rfl (fun H locs X => ?_)
  refine lv_i2l hx hb dX8_volumeFor_15 rfl ?_
  refine lv_lmul hx hb dX8_volumeFor_16 ?_
  have h0 := Option.some.inj h0
  subst h0
  subst hQ
  exact w_lret K hr0 X wM_fstx hsz dX8_volumeFor_17
-- X8_meniscusOf
def f_X8_meniscusOf (M : RowS) (a1 : Int32) : Option Int32 :=
  ob (f_X8_of M a1 0) fun x1 =>
  ob (f_X8_ofLeg M x1 2) fun x2 =>
  ob (f_X8_of M a1 2) fun x3 =>
  if ¬ x3 = 0 then
    some (x2 / x3)
  else none
abbrev rm_X8_meniscusOf : Room := { frames := 2, cells := 0, slots := 0, locals := 43 }
set_option maxRecDepth 100000 in
set_option maxHeartbeats 4000000 in
theorem m_X8_meniscusOf (l : Launch) (D : va_G) (ca : Nat → ClassId) (am : Nat → Nat) (M : RowS) (xs : va_W) (a1 : Int32) (res : Int32) (h0 : f_X8_meniscusOf M a1 = some res) (sz : Nat) : Met l yX8_meniscusOf (ws_ yX8_meniscusOf cX8_meniscusOf 2 (some .int)) rm_X8_meniscusOf (PCw D ca (wM am ca M ++ xs) sz [.ref (am 0), .int a1]) (QMw D (wM am ca M ++ xs) (wM am ca M ++ xs) sz (some (.int res))) 0 0 (AL (wM am ca M ++ xs) sz) := by
  refine met_of (by decide) (Nat.le_of_ble_eq_true rfl) (fun p e s m args below meth c K hr0 X hsz ls hl => ?_)
  have K : MC D ca p s m args meth c cX8_meniscusOf 2 RX8 := K
  have hx := K.1
  have hb := K.2.1
  have hl : lv_has ls 2 [(0, .ref (am 0)), (1, .int a1)] := hl
  generalize hQ : MQ below _ args s 0 0 _ = Q
  unfold f_X8_meniscusOf at h0
  suffices Z : ∀ (H : Heap) (locs : List Loc) (X : RW D (wM am ca M ++ xs) s.heap H locs), W p l e rm_X8_meniscusOf s m args below meth c H locs 0 0 Q (F0 m 0 ls []) from Z _ _ X
  intro H locs X
  refine lv_aload_n hx hb dX8_meniscusOf_0 rfl (lv_at hl 0 rfl) ?_
  refine lv_aload_n hx hb dX8_meniscusOf_1 rfl (lv_at hl 0 rfl) ?_
  refine lv_iload_n hx hb dX8_meniscusOf_2 rfl (lv_at hl 1 rfl) ?_
  refine lv_iconst (v := 0) hx hb dX8_meniscusOf_3 (by decide) ?_
  obtain ⟨x1, ex1, h0⟩ := ob_out h0
  have kx1 := m_X8_of l D ca am M xs a1 0 x1 ex1 H.size
  refine w_callV0 K X wM_fstx kx1 hl.1 2 q1631 q1633 q47 q97 q1634 hv_X8_of ⟨⟨Nat.le_of_ble_eq_true rfl, Nat.le_of_ble_eq_true rfl⟩, rfl, rfl⟩ pl_modo rfl rfl rfl rfl (Nat.le_of_ble_eq_true rfl) dX8_meniscusOf_4 ⟨Nat.le_of_ble_eq_true rfl, Nat.le_of_ble_eq_true rfl⟩ rfl (fun H locs X => ?_)
  refine lv_iconst (v := 2) hx hb dX8_meniscusOf_7 (by decide) ?_
  obtain ⟨x2, ex2, h0⟩ := ob_out h0
  have kx2 := m_X8_ofLeg l D ca am M xs x1 2 x2 ex2 H.size
  refine w_callV0 K X wM_fstx kx2 hl.1 2 q1627 q1629 q46 q97 q1630 hv_X8_ofLeg ⟨⟨Nat.le_of_ble_eq_true rfl, Nat.le_of_ble_eq_true rfl⟩, rfl, rfl⟩ pl_modo rfl rfl rfl rfl (Nat.le_of_ble_eq_true rfl) dX8_meniscusOf_8 ⟨Nat.le_of_ble_eq_true rfl, Nat.le_of_ble_eq_true rfl⟩ rfl (fun H locs X => ?_)
  refine lv_aload_n hx hb dX8_meniscusOf_11 rfl (lv_at hl 0 rfl) ?_
  refine lv_iload_n hx hb dX8_meniscusOf_12 rfl (lv_at hl 1 rfl) ?_
  refine lv_iconst (v := 2) hx hb dX8_meniscusOf_13 (by decide) ?_
  obtain ⟨x3, ex3, h0⟩ := ob_out h0
  have kx3 := m_X8_of l D ca am M xs a1 2 x3 ex3 H.size
  refine w_callV0 K X wM_fstx kx3 hl.1 2 q1631 q1633 q47 q97 q1634 hv_X8_of ⟨⟨Nat.le_of_ble_eq_true rfl, Nat.le_of_ble_eq_true rfl⟩, rfl, rfl⟩ pl_modo rfl rfl rfl rfl (Nat.le_of_ble_eq_true rfl) dX8_meniscusOf_14 ⟨Nat.le_of_ble_eq_true rfl, Nat.le_of_ble_eq_true rfl⟩ rfl (fun H locs X => ?_)
  obtain ⟨c4, h0⟩ := if_o h0
  refine lv_idiv hx hb dX8_meniscusOf_17 c4 ?_
  have h0 := Option.some.inj h0
  subst h0
  subst hQ
  exact w_iret K hr0 X wM_fstx hsz dX8_meniscusOf_18
-- X8_pullOf
def f_X8_pullOf (M : RowS) (a1 : Int32) : Option Int32 :=
  if 0 ≤ (1 : Int32).toInt ∧ (1 : Int32).toInt < 102 then
    ob (f_X8_of M a1 1) fun x2 =>
    if 0 ≤ (4 + x2).toInt ∧ (4 + x2).toInt < 102 then
      ob (f_X8_of M a1 0) fun x4 =>
      ob (f_X8_ofLeg M x4 0) fun x5 =>
      if ¬ x5 = 0 then
        some ((((M.1 1 (1 : Int32).toNatClampNeg) - (M.1 1 (4 + x2).toNatClampNeg)) * 1000) / x5)
      else none
    else none
  else none
abbrev rm_X8_pullOf : Room := { frames := 2, cells := 0, slots := 0, locals := 43 }
set_option maxRecDepth 100000 in
set_option maxHeartbeats 4000000 in
theorem m_X8_pullOf (l : Launch) (D : va_G) (ca : Nat → ClassId) (am : Nat → Nat) (M : RowS) (xs : va_W) (a1 : Int32) (res : Int32) (h0 : f_X8_pullOf M a1 = some res) (sz : Nat) : Met l yX8_pullOf (ws_ yX8_pullOf cX8_pullOf 2 (some .int)) rm_X8_pullOf (PCw D ca (wM am ca M ++ xs) sz [.ref (am 0), .int a1]) (QMw D (wM am ca M ++ xs) (wM am ca M ++ xs) sz (some (.int res))) 0 0 (AL (wM am ca M ++ xs) sz) := by
  refine met_of (by decide) (Nat.le_of_ble_eq_true rfl) (fun p e s m args below meth c K hr0 X hsz ls hl => ?_)
  have K : MC D ca p s m args meth c cX8_pullOf 2 RX8 := K
  have hx := K.1
  have hb := K.2.1
  have hl : lv_has ls 2 [(0, .ref (am 0)), (1, .int a1)] := hl
  generalize hQ : MQ below _ args s 0 0 _ = Q
  unfold f_X8_pullOf at h0
  suffices Z : ∀ (H : Heap) (locs : List Loc) (X : RW D (wM am ca M ++ xs) s.heap H locs), W p l e rm_X8_pullOf s m args below meth c H locs 0 0 Q (F0 m 0 ls []) from Z _ _ X
  intro H locs X
  refine lv_aload_n hx hb dX8_pullOf_0 rfl (lv_at hl 0 rfl) ?_
  refine g_modr K X 1 (by decide) (fun _ _ => rfl) q1400 dX8_pullOf_1 ?_
  refine lv_iconst (v := 1) hx hb dX8_pullOf_4 (by decide) ?_
  obtain ⟨c1, h0⟩ := if_o h0
  refine a_modi K X 1 1 102 rfl rfl (inb_vp c1) dX8_pullOf_5 ?_
  refine lv_aload_n hx hb dX8_pullOf_6 rfl (lv_at hl 0 rfl) ?_
  refine g_modr K X 1 (by decide) (fun _ _ => rfl) q1400 dX8_pullOf_7 ?_
  refine lv_iconst (v := 4) hx hb dX8_pullOf_10 (by decide) ?_
  refine lv_aload_n hx hb dX8_pullOf_11 rfl (lv_at hl 0 rfl) ?_
  refine lv_iload_n hx hb dX8_pullOf_12 rfl (lv_at hl 1 rfl) ?_
  refine lv_iconst (v := 1) hx hb dX8_pullOf_13 (by decide) ?_
  obtain ⟨x2, ex2, h0⟩ := ob_out h0
  have kx2 := m_X8_of l D ca am M xs a1 1 x2 ex2 H.size
  refine w_callV0 K X wM_fstx kx2 hl.1 2 q1631 q1633 q47 q97 q1634 hv_X8_of ⟨⟨Nat.le_of_ble_eq_true rfl, Nat.le_of_ble_eq_true rfl⟩, rfl, rfl⟩ pl_modo rfl rfl rfl rfl (Nat.le_of_ble_eq_true rfl) dX8_pullOf_14 ⟨Nat.le_of_ble_eq_true rfl, Nat.le_of_ble_eq_true rfl⟩ rfl (fun H locs X => ?_)
  refine lv_iadd hx hb dX8_pullOf_17 ?_
  obtain ⟨c3, h0⟩ := if_o h0
  refine a_modi K X 1 1 102 rfl rfl (inb_vp c3) dX8_pullOf_18 ?_
  refine lv_isub hx hb dX8_pullOf_19 ?_
  refine lv_sipush (v := 1000) hx hb dX8_pullOf_20 (by decide) ?_
  refine lv_imul hx hb dX8_pullOf_23 ?_
  refine lv_aload_n hx hb dX8_pullOf_24 rfl (lv_at hl 0 rfl) ?_
  refine lv_aload_n hx hb dX8_pullOf_25 rfl (lv_at hl 0 rfl) ?_
  refine lv_iload_n hx hb dX8_pullOf_26 rfl (lv_at hl 1 rfl) ?_
  refine lv_iconst (v := 0) hx hb dX8_pullOf_27 (by decide) ?_
  obtain ⟨x4, ex4, h0⟩ := ob_out h0
  have kx4 := m_X8_of l D ca am M xs a1 0 x4 ex4 H.size
  refine w_callV0 K X wM_fstx kx4 hl.1 2 q1631 q1633 q47 q97 q1634 hv_X8_of ⟨⟨Nat.le_of_ble_eq_true rfl, Nat.le_of_ble_eq_true rfl⟩, rfl, rfl⟩ pl_modo rfl rfl rfl rfl (Nat.le_of_ble_eq_true rfl) dX8_pullOf_28 ⟨Nat.le_of_ble_eq_true rfl, Nat.le_of_ble_eq_true rfl⟩ rfl (fun H locs X => ?_)
  refine lv_iconst (v := 0) hx hb dX8_pullOf_31 (by decide) ?_
  obtain ⟨x5, ex5, h0⟩ := ob_out h0
  have kx5 := m_X8_ofLeg l D ca am M xs x4 0 x5 ex5 H.size
  refine w_callV0 K X wM_fstx kx5 hl.1 2 q1627 q1629 q46 q97 q1630 hv_X8_ofLeg ⟨⟨Nat.le_of_ble_eq_true rfl, Nat.le_of_ble_eq_true rfl⟩, rfl, rfl⟩ pl_modo rfl rfl rfl rfl (Nat.le_of_ble_eq_true rfl) dX8_pullOf_32 ⟨Nat.le_of_ble_eq_true rfl, Nat.le_of_ble_eq_true rfl⟩ rfl (fun H locs X => ?_)
  obtain ⟨c6, h0⟩ := if_o h0
  refine lv_idiv hx hb dX8_pullOf_35 c6 ?_
  have h0 := Option.some.inj h0
  subst h0
  subst hQ
  exact w_iret K hr0 X wM_fstx hsz dX8_pullOf_36
-- X8_runAt
def f_X8_runAt (M : RowS) (a1 : Int32) (a2 : Int64) : Option Int64 :=
  ob (f_X8_pullOf M a1) fun x1 =>
  ob (f_X8_meniscusOf M a1) fun x2 =>
  ob (f_X8_of M a1 3) fun x3 =>
  if ¬ x3.toInt64 = 0 then
    some ((((a2 + x1.toInt64) + x2.toInt64) * 1000) / x3.toInt64)
  else none
abbrev rm_X8_runAt : Room := { frames := 3, cells := 0, slots := 0, locals := 64 }
set_option maxRecDepth 100000 in
set_option maxHeartbeats 4000000 in
theorem m_X8_runAt (l : Launch) (D : va_G) (ca : Nat → ClassId) (am : Nat → Nat) (M : RowS) (xs : va_W) (a1 : Int32) (a2 : Int64) (res : Int64) (h0 : f_X8_runAt M a1 a2 = some res) (sz : Nat) : Met l yX8_runAt (ws_ yX8_runAt cX8_runAt 4 (some .long)) rm_X8_runAt (PCw D ca (wM am ca M ++ xs) sz [.ref (am 0), .int a1, .long a2]) (QMw D (wM am ca M ++ xs) (wM am ca M ++ xs) sz (some (.long res))) 0 0 (AL (wM am ca M ++ xs) sz) := by
  refine met_of (by decide) (Nat.le_of_ble_eq_true rfl) (fun p e s m args below meth c K hr0 X hsz ls hl => ?_)
  have K : MC D ca p s m args meth c cX8_runAt 4 RX8 := K
  have hx := K.1
  have hb := K.2.1
  have hl : lv_has ls 4 [(0, .ref (am 0)), (1, .int a1), (2, .long a2)] := hl
  generalize hQ : MQ below _ args s 0 0 _ = Q
  unfold f_X8_runAt at h0
  suffices Z : ∀ (H : Heap) (locs : List Loc) (X : RW D (wM am ca M ++ xs) s.heap H locs), W p l e rm_X8_runAt s m args below meth c H locs 0 0 Q (F0 m 0 ls []) from Z _ _ X
  intro H locs X
  refine lv_lload_n hx hb dX8_runAt_0 rfl (lv_at hl 2 rfl) ?_
  refine lv_aload_n hx hb dX8_runAt_1 rfl (lv_at hl 0 rfl) ?_
  refine lv_iload_n hx hb dX8_runAt_2 rfl (lv_at hl 1 rfl) ?_
  obtain ⟨x1, ex1, h0⟩ := ob_out h0
  have kx1 := m_X8_pullOf l D ca am M xs a1 x1 ex1 H.size
  refine w_callV0 K X wM_fstx kx1 hl.1 1 q1663 q1665 q54 q97 q1666 hv_X8_pullOf ⟨⟨Nat.le_of_ble_eq_true rfl, Nat.le_of_ble_eq_true rfl⟩, rfl, rfl⟩ pl_modo rfl rfl rfl rfl (Nat.le_of_ble_eq_true rfl) dX8_runAt_3 ⟨Nat.le_of_ble_eq_true rfl, Nat.le_of_ble_eq_true rfl⟩ rfl (fun H locs X => ?_)
  refine lv_i2l hx hb dX8_runAt_6 rfl ?_
  refine lv_ladd hx hb dX8_runAt_7 ?_
  refine lv_aload_n hx hb dX8_runAt_8 rfl (lv_at hl 0 rfl) ?_
  refine lv_iload_n hx hb dX8_runAt_9 rfl (lv_at hl 1 rfl) ?_
  obtain ⟨x2, ex2, h0⟩ := ob_out h0
  have kx2 := m_X8_meniscusOf l D ca am M xs a1 x2 ex2 H.size
  refine w_callV0 K X wM_fstx kx2 hl.1 1 q1667 q1669 q55 q97 q1670 hv_X8_meniscusOf ⟨⟨Nat.le_of_ble_eq_true rfl, Nat.le_of_ble_eq_true rfl⟩, rfl, rfl⟩ pl_modo rfl rfl rfl rfl (Nat.le_of_ble_eq_true rfl) dX8_runAt_10 ⟨Nat.le_of_ble_eq_true rfl, Nat.le_of_ble_eq_true rfl⟩ rfl (fun H locs X => ?_)
  refine lv_i2l hx hb dX8_runAt_13 rfl ?_
  refine lv_ladd hx hb dX8_runAt_14 ?_
  refine lv_ldc2 hx hb K.2.2.2.1 (K.2.2.2.2.1 _ q1671) dX8_runAt_15 ?_
  refine lv_lmul hx hb dX8_runAt_18 ?_
  refine lv_aload_n hx hb dX8_runAt_19 rfl (lv_at hl 0 rfl) ?_
  refine lv_iload_n hx hb dX8_runAt_20 rfl (lv_at hl 1 rfl) ?_
  refine lv_iconst (v := 3) hx hb dX8_runAt_21 (by decide) ?_
  obtain ⟨x3, ex3, h0⟩ := ob_out h0
  have kx3 := m_X8_of l D ca am M xs a1 3 x3 ex3 H.size
  refine w_callV0 K X wM_fstx kx3 hl.1 2 q1631 q1633 q47 q97 q1634 hv_X8_of ⟨⟨Nat.le_of_ble_eq_true rfl, Nat.le_of_ble_eq_true rfl⟩, rfl, rfl⟩ pl_modo rfl rfl rfl rfl (Nat.le_of_ble_eq_true rfl) dX8_runAt_22 ⟨Nat.le_of_ble_eq_true rfl, Nat.le_of_ble_eq_true rfl⟩ rfl (fun H locs X => ?_)
  refine lv_i2l hx hb dX8_runAt_25 rfl ?_
  obtain ⟨c4, h0⟩ := if_o h0
  refine lv_ldiv hx hb dX8_runAt_26 c4 ?_
  have h0 := Option.some.inj h0
  subst h0
  subst hQ
  exact w_lret K hr0 X wM_fstx hsz dX8_runAt_27
-- X8_columnAt
def f_X8_columnAt (M : RowS) (a1 : Int32) (a2 : Int64) : Option Int64 :=
  ob (f_X8_isWhole M a1) fun x1 =>
  if x1 = true then
    ob (f_X8_runAt M a1 a2) fun x3 =>
    if 0 ≤ x3 then
      ob (f_X8_fullOf M a1) fun x5 =>
      if x3 ≤ x5.toInt64 then
        some x3
      else
        ob (f_X8_fullOf M a1) fun x7 =>
        some x7.toInt64
    else
      some 0
  else
    some 0
abbrev rm_X8_columnAt : Room := { frames := 4, cells := 0, slots := 0, locals := 87 }
set_option maxRecDepth 100000 in
set_option maxHeartbeats 4000000 in
theorem m_X8_columnAt (l : Launch) (D : va_G) (ca : Nat → ClassId) (am : Nat → Nat) (M : RowS) (xs : va_W) (a1 : Int32) (a2 : Int64) (res : Int64) (h0 : f_X8_columnAt M a1 a2 = some res) (sz : Nat) : Met l yX8_columnAt (ws_ yX8_columnAt cX8_columnAt 6 (some .long)) rm_X8_columnAt (PCw D ca (wM am ca M ++ xs) sz [.ref (am 0), .int a1, .long a2]) (QMw D (wM am ca M ++ xs) (wM am ca M ++ xs) sz (some (.long res))) 0 0 (AL (wM am ca M ++ xs) sz) := by
  refine met_of (by decide) (Nat.le_of_ble_eq_true rfl) (fun p e s m args below meth c K hr0 X hsz ls hl => ?_)
  have K : MC D ca p s m args meth c cX8_columnAt 6 RX8 := K
  have hx := K.1
  have hb := K.2.1
  have hl : lv_has ls 6 [(0, .ref (am 0)), (1, .int a1), (2, .long a2)] := hl
  generalize hQ : MQ below _ args s 0 0 _ = Q
  unfold f_X8_columnAt at h0
  suffices Z : ∀ (H : Heap) (locs : List Loc) (X : RW D (wM am ca M ++ xs) s.heap H locs), W p l e rm_X8_columnAt s m args below meth c H locs 0 0 Q (F0 m 0 ls []) from Z _ _ X
  intro H locs X
  refine lv_aload_n hx hb dX8_columnAt_0 rfl (lv_at hl 0 rfl) ?_
  refine lv_iload_n hx hb dX8_columnAt_1 rfl (lv_at hl 1 rfl) ?_
  obtain ⟨x1, ex1, h0⟩ := ob_out h0
  have kx1 := m_X8_isWhole l D ca am M xs a1 x1 ex1 H.size
  refine w_callV0 K X wM_fstx kx1 hl.1 1 q1655 q1657 q52 q97 q1658 hv_X8_isWhole ⟨⟨Nat.le_of_ble_eq_true rfl, Nat.le_of_ble_eq_true rfl⟩, rfl, rfl⟩ pl_modo rfl rfl rfl rfl (Nat.le_of_ble_eq_true rfl) dX8_columnAt_2 ⟨Nat.le_of_ble_eq_true rfl, Nat.le_of_ble_eq_true rfl⟩ rfl (fun H locs X => ?_)
  refine w_zne (tgt := 10) K dX8_columnAt_5 (by decide) (fun c2 => ?_) (fun c2 => ?_)
  · have h0 := if_t c2 h0
    refine lv_aload_n hx hb dX8_columnAt_10 rfl (lv_at hl 0 rfl) ?_
    refine lv_iload_n hx hb dX8_columnAt_11 rfl (lv_at hl 1 rfl) ?_
    refine lv_lload_n hx hb dX8_columnAt_12 rfl (lv_at hl 2 rfl) ?_
    obtain ⟨x3, ex3, h0⟩ := ob_out h0
    have kx3 := m_X8_runAt l D ca am M xs a1 a2 x3 ex3 H.size
    refine w_callV0 K X wM_fstx kx3 hl.1 2 q1659 q1661 q53 q97 q1662 hv_X8_runAt ⟨⟨Nat.le_of_ble_eq_true rfl, Nat.le_of_ble_eq_true rfl⟩, rfl, rfl⟩ pl_modo rfl rfl rfl rfl (Nat.le_of_ble_eq_true rfl) dX8_columnAt_13 ⟨Nat.le_of_ble_eq_true rfl, Nat.le_of_ble_eq_true rfl⟩ rfl (fun H locs X => ?_)
    refine lv_lstore (lv' := [(4, .long x3), (0, .ref (am 0)), (1, .int a1), (2, .long a2)]) hx hb dX8_columnAt_16 hl (by decide) rfl (fun ls hl => ?_)
    refine lv_lload hx hb dX8_columnAt_18 (lv_at hl 0 rfl) ?_
    refine lv_lconst (v := 0) hx hb dX8_columnAt_20 (by decide) ?_
    refine w_bge (tgt := 29) K dX8_columnAt_21 dX8_columnAt_22 (by decide) (fun c4 => ?_) (fun c4 => ?_)
    · have h0 := if_t c4 h0
      refine lv_lload hx hb dX8_columnAt_29 (lv_at hl 0 rfl) ?_
      refine lv_aload_n hx hb dX8_columnAt_31 rfl (lv_at hl 1 rfl) ?_
      refine lv_iload_n hx hb dX8_columnAt_32 rfl (lv_at hl 2 rfl) ?_
      obtain ⟨x5, ex5, h0⟩ := ob_out h0
      have kx5 := m_X8_fullOf l D ca am M xs a1 x5 ex5 H.size
      refine w_callV0 K X wM_fstx kx5 hl.1 1 q1635 q1637 q48 q97 q1638 hv_X8_fullOf ⟨⟨Nat.le_of_ble_eq_true rfl, Nat.le_of_ble_eq_true rfl⟩, rfl, rfl⟩ pl_modo rfl rfl rfl rfl (Nat.le_of_ble_eq_true rfl) dX8_columnAt_33 ⟨Nat.le_of_ble_eq_true rfl, Nat.le_of_ble_eq_true rfl⟩ rfl (fun H locs X => ?_)
      refine lv_i2l hx hb dX8_columnAt_36 rfl ?_
      refine w_ble (tgt := 50) K dX8_columnAt_37 dX8_columnAt_38 (by decide) (fun c6 => ?_) (fun c6 => ?_)
      · have h0 := if_t c6 h0
        refine lv_lload hx hb dX8_columnAt_50 (lv_at hl 0 rfl) ?_
        have h0 := Option.some.inj h0
        subst h0
        subst hQ
        exact w_lret K hr0 X wM_fstx hsz dX8_columnAt_52
      · have h0 := if_f c6 h0
        refine lv_aload_n hx hb dX8_columnAt_41 rfl (lv_at hl 1 rfl) ?_
        refine lv_iload_n hx hb dX8_columnAt_42 rfl (lv_at hl 2 rfl) ?_
        obtain ⟨x7, ex7, h0⟩ := ob_out h0
        have kx7 := m_X8_fullOf l D ca am M xs a1 x7 ex7 H.size
        refine w_callV0 K X wM_fstx kx7 hl.1 1 q1635 q1637 q48 q97 q1638 hv_X8_fullOf ⟨⟨Nat.le_of_ble_eq_true rfl, Nat.le_of_ble_eq_true rfl⟩, rfl, rfl⟩ pl_modo rfl rfl rfl rfl (Nat.le_of_ble_eq_true rfl) dX8_columnAt_43 ⟨Nat.le_of_ble_eq_true rfl, Nat.le_of_ble_eq_true rfl⟩ rfl (fun H locs X => ?_)
        refine lv_i2l hx hb dX8_columnAt_46 rfl ?_
        refine lv_goto (tgt := 52) hx hb dX8_columnAt_47 (by decide) ?_
        have h0 := Option.some.inj h0
        subst h0
        subst hQ
        exact w_lret K hr0 X wM_fstx hsz dX8_columnAt_52
    · have h0 := if_f c4 h0
      refine lv_lconst (v := 0) hx hb dX8_columnAt_25 (by decide) ?_
      refine lv_goto (tgt := 52) hx hb dX8_columnAt_26 (by decide) ?_
      have h0 := Option.some.inj h0
      subst h0
      subst hQ
      exact w_lret K hr0 X wM_fstx hsz dX8_columnAt_52
  · have h0 := if_f c2 h0
    refine lv_lconst (v := 0) hx hb dX8_columnAt_8 (by decide) ?_
    have h0 := Option.some.inj h0
    subst h0
    subst hQ
    exact w_lret K hr0 X wM_fstx hsz dX8_columnAt_9
-- X8_volumesAt
def b_X8_volumesAt_56  (y56_l4 : Int64) : Option Int64 :=
  some y56_l4
def b_X8_volumesAt_47  (y47_l6 : Int32) (y47_s0 : Int64) (y47_s1 : Int64) : Option ((Int64 × Int32) ⊕ Int64) :=
  lt (y47_s0 + y47_s1) fun x5 =>
  lt (y47_l6 + 1) fun x6 =>
  some (.inl (x5, x6))
def l_X8_volumesAt_6 (M : RowS) (a1 : Int32) (a2 : Int64) (z6_4 : Int64) (z6_6 : Int32) : Option ((Int64 × Int32) ⊕ Int64) :=
  if 0 ≤ (2 : Int32).toInt ∧ (2 : Int32).toInt < 102 then
    if (M.1 1 (2 : Int32).toNatClampNeg) ≤ z6_6 then
      some (.inr z6_4)
    else
      ob (f_X8_of M z6_6 0) fun x3 =>
      if x3 = a1 then
        ob (f_X8_columnAt M z6_6 a2) fun x7 =>
        ob (f_X8_volumeFor M z6_6 x7) fun x8 =>
        b_X8_volumesAt_47 z6_6 z6_4 x8
      else
        b_X8_volumesAt_47 z6_6 z6_4 0
  else none
def f_X8_volumesAt (n : Nat) (M : RowS) (a1 : Int32) (a2 : Int64) : Option Int64 :=
  ob (wloop (fun t => l_X8_volumesAt_6 M a1 a2 t.1 t.2) n (0, 0)) (fun t => b_X8_volumesAt_56 t)
abbrev rm_X8_volumesAt : Room := { frames := 5, cells := 0, slots := 0, locals := 112 }
set_option maxRecDepth 100000 in
set_option maxHeartbeats 4000000 in
theorem m_X8_volumesAt (l : Launch) (D : va_G) (ca : Nat → ClassId) (am : Nat → Nat) (n : Nat) (M : RowS) (xs : va_W) (a1 : Int32) (a2 : Int64) (res : Int64) (h0 : f_X8_volumesAt n M a1 a2 = some res) (sz : Nat) : Met l yX8_volumesAt (ws_ yX8_volumesAt cX8_volumesAt 7 (some .long)) rm_X8_volumesAt (PCw D ca (wM am ca M ++ xs) sz [.ref (am 0), .int a1, .long a2]) (QMw D (wM am ca M ++ xs) (wM am ca M ++ xs) sz (some (.long res))) 0 0 (AL (wM am ca M ++ xs) sz) := by
  refine met_of (by decide) (Nat.le_of_ble_eq_true rfl) (fun p e s m args below meth c K hr0 X hsz ls hl => ?_)
  have K : MC D ca p s m args meth c cX8_volumesAt 7 RX8 := K
  have hx := K.1
  have hb := K.2.1
  have hl : lv_has ls 7 [(0, .ref (am 0)), (1, .int a1), (2, .long a2)] := hl
  generalize hQ : MQ below _ args s 0 0 _ = Q
  unfold f_X8_volumesAt at h0
  suffices Z : ∀ (H : Heap) (locs : List Loc) (X : RW D (wM am ca M ++ xs) s.heap H locs), W p l e rm_X8_volumesAt s m args below meth c H locs 0 0 Q (F0 m 0 ls []) from Z _ _ X
  intro H locs X
  have J56 : ∀ (y56_l4 : Int64) (H : Heap) (locs : List Loc) (X : RW D (wM am ca M ++ xs) s.heap H locs) (ls : Array Slot) (hl : lv_has ls 7 [(4, .long y56_l4)]) (h0 : b_X8_volumesAt_56 y56_l4 = some res), W p l e rm_X8_volumesAt s m args below meth c H locs 0 0 Q (F0 m 56 ls []) := by
    intro y56_l4 H locs X ls hl h0
    unfold b_X8_volumesAt_56 at h0
    refine lv_lload hx hb dX8_volumesAt_56 (lv_at hl 0 rfl) ?_
    have h0 := Option.some.inj h0
    subst h0
    subst hQ
    exact w_lret K hr0 X wM_fstx hsz dX8_volumesAt_58
  refine lv_lconst (v := 0) hx hb dX8_volumesAt_0 (by decide) ?_
  refine lv_lstore (lv' := [(4, .long 0), (0, .ref (am 0)), (1, .int a1), (2, .long a2)]) hx hb dX8_volumesAt_1 hl (by decide) rfl (fun ls hl => ?_)
  refine lv_iconst (v := 0) hx hb dX8_volumesAt_3 (by decide) ?_
  refine lv_istore (lv' := [(6, .int 0), (4, .long 0), (0, .ref (am 0)), (1, .int a1), (2, .long a2)]) hx hb dX8_volumesAt_4 hl (by decide) rfl (fun ls hl => ?_)
  obtain ⟨e_1, he1, h0⟩ := ob_out h0
  have K6 : ∀ (k : Nat) (z6_4 : Int64) (z6_6 : Int32) (H : Heap) (locs : List Loc) (X : RW D (wM am ca M ++ xs) s.heap H locs) (ls : Array Slot) (hl : lv_has ls 7 [(0, .ref (am 0)), (1, .int a1), (2, .long a2), (4, .long z6_4), (6, .int z6_6)]) (hw : wloop (fun t => l_X8_volumesAt_6 M a1 a2 t.1 t.2) k (z6_4, z6_6) = some e_1), W p l e rm_X8_volumesAt s m args below meth c H locs 0 0 Q (F0 m 6 ls []) := by
    intro k
    induction k with
    | zero => intro z6_4 z6_6 H locs X ls hl hw; exact (wloop_0 hw).elim
    | succ k ih1 =>
      intro z6_4 z6_6 H locs X ls hl hw
      obtain ⟨x_1, h1, hx1⟩ := wloop_out hw
      have h1 : l_X8_volumesAt_6 M a1 a2 z6_4 z6_6 = some x_1 := h1
      unfold l_X8_volumesAt_6 at h1
      have J47 : ∀ (y47_l6 : Int32) (y47_s0 : Int64) (y47_s1 : Int64) (H : Heap) (locs : List Loc) (X : RW D (wM am ca M ++ xs) s.heap H locs) (ls : Array Slot) (hl : lv_has ls 7 [(0, .ref (am 0)), (1, .int a1), (2, .long a2), (6, .int y47_l6)]) (h1 : b_X8_volumesAt_47 y47_l6 y47_s0 y47_s1 = some x_1), W p l e rm_X8_volumesAt s m args below meth c H locs 0 0 Q (F0 m 47 ls [.long y47_s1, .long y47_s0]) := by
        intro y47_l6 y47_s0 y47_s1 H locs X ls hl h1
        unfold b_X8_volumesAt_47 at h1
        refine lv_ladd hx hb dX8_volumesAt_47 ?_
        obtain ⟨x5, ex5, h1⟩ := lt_out h1
        refine w_long ex5 ?_
        refine lv_lstore (lv' := [(4, .long x5), (0, .ref (am 0)), (1, .int a1), (2, .long a2), (6, .int y47_l6)]) hx hb dX8_volumesAt_48 hl (by decide) rfl (fun ls hl => ?_)
        obtain ⟨x6, ex6, h1⟩ := lt_out h1
        refine lv_iinc (v := x6) (lv' := [(6, .int x6), (4, .long x5), (0, .ref (am 0)), (1, .int a1), (2, .long a2)]) hx hb dX8_volumesAt_50 hl (k := 4) rfl (by rw [ex6]; rfl) (by decide) rfl (fun ls hl => ?_)
        refine lv_goto (tgt := 6) hx hb dX8_volumesAt_53 (by decide) ?_
        exact ih1 x5 x6 H locs X ls (lv_sub hl [2, 3, 4, 1, 0] rfl) (wl_l h1 hx1)
      refine lv_iload hx hb dX8_volumesAt_6 (lv_at hl 4 rfl) ?_
      refine lv_aload_n hx hb dX8_volumesAt_8 rfl (lv_at hl 0 rfl) ?_
      refine g_modr K X 1 (by decide) (fun _ _ => rfl) q1400 dX8_volumesAt_9 ?_
      refine lv_iconst (v := 2) hx hb dX8_volumesAt_12 (by decide) ?_
      obtain ⟨c1, h1⟩ := if_o h1
      refine a_modi K X 1 1 102 rfl rfl (inb_vp c1) dX8_volumesAt_13 ?_
      refine lv_icmp_ge (tgt := 56) hx hb dX8_volumesAt_14 (by decide) (fun c2 => ?_) (fun c2 => ?_)
      · have h1 := if_t c2 h1
        have q1 := wl_r h1 hx1
        exact J56 z6_4 H locs X ls (lv_sub hl [3] rfl) (by rw [q1] at h0; exact h0)
      · have h1 := if_f c2 h1
        refine lv_lload hx hb dX8_volumesAt_17 (lv_at hl 3 rfl) ?_
        refine lv_aload_n hx hb dX8_volumesAt_19 rfl (lv_at hl 0 rfl) ?_
        refine lv_iload hx hb dX8_volumesAt_20 (lv_at hl 4 rfl) ?_
        refine lv_iconst (v := 0) hx hb dX8_volumesAt_22 (by decide) ?_
        obtain ⟨x3, ex3, h1⟩ := ob_out h1
        have kx3 := m_X8_of l D ca am M xs z6_6 0 x3 ex3 H.size
        refine w_callV0 K X wM_fstx kx3 hl.1 2 q1631 q1633 q47 q97 q1634 hv_X8_of ⟨⟨Nat.le_of_ble_eq_true rfl, Nat.le_of_ble_eq_true rfl⟩, rfl, rfl⟩ pl_modo rfl rfl rfl rfl (Nat.le_of_ble_eq_true rfl) dX8_volumesAt_23 ⟨Nat.le_of_ble_eq_true rfl, Nat.le_of_ble_eq_true rfl⟩ rfl (fun H locs X => ?_)
        refine lv_iload_n hx hb dX8_volumesAt_26 rfl (lv_at hl 1 rfl) ?_
        refine lv_icmp_ne (tgt := 46) hx hb dX8_volumesAt_27 (by decide) (fun c4 => ?_) (fun c4 => ?_)
        · have h1 := if_f c4 h1
          refine lv_lconst (v := 0) hx hb dX8_volumesAt_46 (by decide) ?_
          exact J47 z6_6 z6_4 0 H locs X ls (lv_sub hl [0, 1, 2, 4] rfl) h1
        · have h1 := if_t c4 h1
          refine lv_aload_n hx hb dX8_volumesAt_30 rfl (lv_at hl 0 rfl) ?_
          refine lv_iload hx hb dX8_volumesAt_31 (lv_at hl 4 rfl) ?_
          refine lv_aload_n hx hb dX8_volumesAt_33 rfl (lv_at hl 0 rfl) ?_
          refine lv_iload hx hb dX8_volumesAt_34 (lv_at hl 4 rfl) ?_
          refine lv_lload_n hx hb dX8_volumesAt_36 rfl (lv_at hl 2 rfl) ?_
          obtain ⟨x7, ex7, h1⟩ := ob_out h1
          have kx7 := m_X8_columnAt l D ca am M xs z6_6 a2 x7 ex7 H.size
          refine w_callV0 K X wM_fstx kx7 hl.1 2 q1651 q1653 q51 q97 q1654 hv_X8_columnAt ⟨⟨Nat.le_of_ble_eq_true rfl, Nat.le_of_ble_eq_true rfl⟩, rfl, rfl⟩ pl_modo rfl rfl rfl rfl (Nat.le_of_ble_eq_true rfl) dX8_volumesAt_37 ⟨Nat.le_of_ble_eq_true rfl, Nat.le_of_ble_eq_true rfl⟩ rfl (fun H locs X => ?_)
          obtain ⟨x8, ex8, h1⟩ := ob_out h1
          have kx8 := m_X8_volumeFor l D ca am M xs z6_6 x7 x8 ex8 H.size
          refine w_callV0 K X wM_fstx kx8 hl.1 2 q1639 q1641 q49 q97 q1642 hv_X8_volumeFor ⟨⟨Nat.le_of_ble_eq_true rfl, Nat.le_of_ble_eq_true rfl⟩, rfl, rfl⟩ pl_modo rfl rfl rfl rfl (Nat.le_of_ble_eq_true rfl) dX8_volumesAt_40 ⟨Nat.le_of_ble_eq_true rfl, Nat.le_of_ble_eq_true rfl⟩ rfl (fun H locs X => ?_)
          refine lv_goto (tgt := 47) hx hb dX8_volumesAt_43 (by decide) ?_
          exact J47 z6_6 z6_4 x8 H locs X ls (lv_sub hl [0, 1, 2, 4] rfl) h1
  exact K6 n 0 0 H locs X ls (lv_sub hl [2, 3, 4, 1, 0] rfl) he1
-- X8_levelOf
def b_X8_levelOf_157  (y157_l6 : Int64) : Option Int64 :=
  some y157_l6
def b_X8_levelOf_154  (y154_l6 : Int64) (y154_l8 : Int64) : Option ((Int64 × Int64) ⊕ Int64) :=
  some (.inl (y154_l6, y154_l8))
def l_X8_levelOf_95 (n : Nat) (M : RowS) (a1 : Int32) (y64_l2 : Int64) (z95_6 : Int64) (z95_8 : Int64) : Option ((Int64 × Int64) ⊕ Int64) :=
  if z95_8 ≤ z95_6 then
    some (.inr z95_6)
  else
    lt (z95_8 - ((z95_8 - z95_6) / 2)) fun x10 =>
    ob (f_X8_volumesAt n M a1 x10) fun x11 =>
    if 0 ≤ (0 + a1).toInt ∧ (0 + a1).toInt < 6 then
      if (M.2 5 (0 + a1).toNatClampNeg) < ((y64_l2 * x10) + x11) then
        lt (x10 - 1) fun x14 =>
        b_X8_levelOf_154 z95_6 x14
      else
        b_X8_levelOf_154 x10 z95_8
    else none
def b_X8_levelOf_64 (n : Nat) (M : RowS) (a1 : Int32) (y64_l2 : Int64) (y64_l4 : Int64) : Option Int64 :=
  if 0 ≤ (0 + a1).toInt ∧ (0 + a1).toInt < 6 then
    ob (f_X8_floors ((M.2 5 (0 + a1).toNatClampNeg) - y64_l4) y64_l2) fun x6 =>
    if 0 ≤ (0 + a1).toInt ∧ (0 + a1).toInt < 6 then
      ob (f_X8_floors (M.2 5 (0 + a1).toNatClampNeg) y64_l2) fun x8 =>
      ob (wloop (fun t => l_X8_levelOf_95 n M a1 y64_l2 t.1 t.2) n (x6, x8)) (fun t => b_X8_levelOf_157 t)
    else none
  else none
def b_X8_levelOf_55  (y55_l6 : Int32) (y55_s0 : Int64) (y55_s1 : Int64) : Option ((Int64 × Int32) ⊕ Int64) :=
  lt (y55_s0 + y55_s1) fun x17 =>
  lt (y55_l6 + 1) fun x18 =>
  some (.inl (x17, x18))
def l_X8_levelOf_14 (M : RowS) (a1 : Int32) (z14_4 : Int64) (z14_6 : Int32) : Option ((Int64 × Int32) ⊕ Int64) :=
  if 0 ≤ (2 : Int32).toInt ∧ (2 : Int32).toInt < 102 then
    if (M.1 1 (2 : Int32).toNatClampNeg) ≤ z14_6 then
      some (.inr z14_4)
    else
      ob (f_X8_of M z14_6 0) fun x15 =>
      if x15 = a1 then
        ob (f_X8_fullOf M z14_6) fun x19 =>
        ob (f_X8_volumeFor M z14_6 x19.toInt64) fun x20 =>
        b_X8_levelOf_55 z14_6 z14_4 x20
      else
        b_X8_levelOf_55 z14_6 z14_4 0
  else none
def f_X8_levelOf (n : Nat) (M : RowS) (a1 : Int32) : Option Int64 :=
  ob (f_X8_ofLeg M a1 1) fun x1 =>
  lt (x1.toInt64) fun x2 =>
  ob (wloop (fun t => l_X8_levelOf_14 M a1 t.1 t.2) n (0, 0)) (fun t => b_X8_levelOf_64 n M a1 x2 t)
abbrev rm_X8_levelOf : Room := { frames := 6, cells := 0, slots := 0, locals := 138 }
set_option maxRecDepth 100000 in
set_option maxHeartbeats 4000000 in
theorem m_X8_levelOf (l : Launch) (D : va_G) (ca : Nat → ClassId) (am : Nat → Nat) (n : Nat) (M : RowS) (xs : va_W) (a1 : Int32) (res : Int64) (h0 : f_X8_levelOf n M a1 = some res) (sz : Nat) : Met l yX8_levelOf (ws_ yX8_levelOf cX8_levelOf 12 (some .long)) rm_X8_levelOf (PCw D ca (wM am ca M ++ xs) sz [.ref (am 0), .int a1]) (QMw D (wM am ca M ++ xs) (wM am ca M ++ xs) sz (some (.long res))) 0 0 (AL (wM am ca M ++ xs) sz) := by
  refine met_of (by decide) (Nat.le_of_ble_eq_true rfl) (fun p e s m args below meth c K hr0 X hsz ls hl => ?_)
  have K : MC D ca p s m args meth c cX8_levelOf 12 RX8 := K
  have hx := K.1
  have hb := K.2.1
  have hl : lv_has ls 12 [(0, .ref (am 0)), (1, .int a1)] := hl
  generalize hQ : MQ below _ args s 0 0 _ = Q
  unfold f_X8_levelOf at h0
  suffices Z : ∀ (H : Heap) (locs : List Loc) (X : RW D (wM am ca M ++ xs) s.heap H locs), W p l e rm_X8_levelOf s m args below meth c H locs 0 0 Q (F0 m 0 ls []) from Z _ _ X
  intro H locs X
  have J157 : ∀ (y157_l6 : Int64) (H : Heap) (locs : List Loc) (X : RW D (wM am ca M ++ xs) s.heap H locs) (ls : Array Slot) (hl : lv_has ls 12 [(6, .long y157_l6)]) (h0 : b_X8_levelOf_157 y157_l6 = some res), W p l e rm_X8_levelOf s m args below meth c H locs 0 0 Q (F0 m 157 ls []) := by
    intro y157_l6 H locs X ls hl h0
    unfold b_X8_levelOf_157 at h0
    refine lv_lload hx hb dX8_levelOf_157 (lv_at hl 0 rfl) ?_
    have h0 := Option.some.inj h0
    subst h0
    subst hQ
    exact w_lret K hr0 X wM_fstx hsz dX8_levelOf_159
  have J64 : ∀ (y64_l2 : Int64) (y64_l4 : Int64) (H : Heap) (locs : List Loc) (X : RW D (wM am ca M ++ xs) s.heap H locs) (ls : Array Slot) (hl : lv_has ls 12 [(0, .ref (am 0)), (1, .int a1), (2, .long y64_l2), (4, .long y64_l4)]) (h0 : b_X8_levelOf_64 n M a1 y64_l2 y64_l4 = some res), W p l e rm_X8_levelOf s m args below meth c H locs 0 0 Q (F0 m 64 ls []) := by
    intro y64_l2 y64_l4 H locs X ls hl h0
    unfold b_X8_levelOf_64 at h0
    refine lv_aload_n hx hb dX8_levelOf_64 rfl (lv_at hl 0 rfl) ?_
    refine g_modr K X 5 (by decide) (fun _ _ => rfl) q1404 dX8_levelOf_65 ?_
    refine lv_iconst (v := 0) hx hb dX8_levelOf_68 (by decide) ?_
    refine lv_iload_n hx hb dX8_levelOf_69 rfl (lv_at hl 1 rfl) ?_
    refine lv_iadd hx hb dX8_levelOf_70 ?_
    obtain ⟨c5, h0⟩ := if_o h0
    refine a_modl K X 5 5 6 rfl rfl (inb_vp c5) dX8_levelOf_71 ?_
    refine lv_lload hx hb dX8_levelOf_72 (lv_at hl 3 rfl) ?_
    refine lv_lsub hx hb dX8_levelOf_74 ?_
    refine lv_lload_n hx hb dX8_levelOf_75 rfl (lv_at hl 2 rfl) ?_
    obtain ⟨x6, ex6, h0⟩ := ob_out h0
    have kx6 := m_X8_floors l D ca (wM am ca M ++ xs) ((M.2 5 (0 + a1).toNatClampNeg) - y64_l4) y64_l2 x6 ex6 H.size
    refine w_callS0 K X wM_fstx kx6 hl.1 2 q1643 q1644 q97 q1645 hs_X8_floors ⟨⟨Nat.le_of_ble_eq_true rfl, Nat.le_of_ble_eq_true rfl⟩, rfl, rfl⟩ rfl rfl (Nat.le_of_ble_eq_true rfl) dX8_levelOf_76 ⟨Nat.le_of_ble_eq_true rfl, Nat.le_of_ble_eq_true rfl⟩ rfl (fun H locs X => ?_)
    refine lv_lstore (lv' := [(6, .long x6), (0, .ref (am 0)), (1, .int a1), (2, .long y64_l2), (4, .long y64_l4)]) hx hb dX8_levelOf_79 hl (by decide) rfl (fun ls hl => ?_)
    refine lv_aload_n hx hb dX8_levelOf_81 rfl (lv_at hl 1 rfl) ?_
    refine g_modr K X 5 (by decide) (fun _ _ => rfl) q1404 dX8_levelOf_82 ?_
    refine lv_iconst (v := 0) hx hb dX8_levelOf_85 (by decide) ?_
    refine lv_iload_n hx hb dX8_levelOf_86 rfl (lv_at hl 2 rfl) ?_
    refine lv_iadd hx hb dX8_levelOf_87 ?_
    obtain ⟨c7, h0⟩ := if_o h0
    refine a_modl K X 5 5 6 rfl rfl (inb_vp c7) dX8_levelOf_88 ?_
    refine lv_lload_n hx hb dX8_levelOf_89 rfl (lv_at hl 3 rfl) ?_
    obtain ⟨x8, ex8, h0⟩ := ob_out h0
    have kx8 := m_X8_floors l D ca (wM am ca M ++ xs) (M.2 5 (0 + a1).toNatClampNeg) y64_l2 x8 ex8 H.size
    refine w_callS0 K X wM_fstx kx8 hl.1 2 q1643 q1644 q97 q1645 hs_X8_floors ⟨⟨Nat.le_of_ble_eq_true rfl, Nat.le_of_ble_eq_true rfl⟩, rfl, rfl⟩ rfl rfl (Nat.le_of_ble_eq_true rfl) dX8_levelOf_90 ⟨Nat.le_of_ble_eq_true rfl, Nat.le_of_ble_eq_true rfl⟩ rfl (fun H locs X => ?_)
    refine lv_lstore (lv' := [(8, .long x8), (6, .long x6), (0, .ref (am 0)), (1, .int a1), (2, .long y64_l2), (4, .long y64_l4)]) hx hb dX8_levelOf_93 hl (by decide) rfl (fun ls hl => ?_)
    obtain ⟨e_1, he1, h0⟩ := ob_out h0
    have K95 : ∀ (k : Nat) (z95_6 : Int64) (z95_8 : Int64) (H : Heap) (locs : List Loc) (X : RW D (wM am ca M ++ xs) s.heap H locs) (ls : Array Slot) (hl : lv_has ls 12 [(0, .ref (am 0)), (1, .int a1), (2, .long y64_l2), (6, .long z95_6), (8, .long z95_8)]) (hw : wloop (fun t => l_X8_levelOf_95 n M a1 y64_l2 t.1 t.2) k (z95_6, z95_8) = some e_1), W p l e rm_X8_levelOf s m args below meth c H locs 0 0 Q (F0 m 95 ls []) := by
      intro k
      induction k with
      | zero => intro z95_6 z95_8 H locs X ls hl hw; exact (wloop_0 hw).elim
      | succ k ih1 =>
        intro z95_6 z95_8 H locs X ls hl hw
        obtain ⟨x_1, h1, hx1⟩ := wloop_out hw
        have h1 : l_X8_levelOf_95 n M a1 y64_l2 z95_6 z95_8 = some x_1 := h1
        unfold l_X8_levelOf_95 at h1
        have J154 : ∀ (y154_l6 : Int64) (y154_l8 : Int64) (H : Heap) (locs : List Loc) (X : RW D (wM am ca M ++ xs) s.heap H locs) (ls : Array Slot) (hl : lv_has ls 12 [(0, .ref (am 0)), (1, .int a1), (2, .long y64_l2), (6, .long y154_l6), (8, .long y154_l8)]) (h1 : b_X8_levelOf_154 y154_l6 y154_l8 = some x_1), W p l e rm_X8_levelOf s m args below meth c H locs 0 0 Q (F0 m 154 ls []) := by
          intro y154_l6 y154_l8 H locs X ls hl h1
          unfold b_X8_levelOf_154 at h1
          refine lv_goto (tgt := 95) hx hb dX8_levelOf_154 (by decide) ?_
          exact ih1 y154_l6 y154_l8 H locs X ls (lv_sub hl [0, 1, 2, 3, 4] rfl) (wl_l h1 hx1)
        refine lv_lload hx hb dX8_levelOf_95 (lv_at hl 3 rfl) ?_
        refine lv_lload hx hb dX8_levelOf_97 (lv_at hl 4 rfl) ?_
        refine w_bge (tgt := 157) K dX8_levelOf_99 dX8_levelOf_100 (by decide) (fun c9 => ?_) (fun c9 => ?_)
        · have h1 := if_t c9 h1
          have q1 := wl_r h1 hx1
          exact J157 z95_6 H locs X ls (lv_sub hl [3] rfl) (by rw [q1] at h0; exact h0)
        · have h1 := if_f c9 h1
          refine lv_lload hx hb dX8_levelOf_103 (lv_at hl 4 rfl) ?_
          refine lv_lload hx hb dX8_levelOf_105 (lv_at hl 4 rfl) ?_
          refine lv_lload hx hb dX8_levelOf_107 (lv_at hl 3 rfl) ?_
          refine lv_lsub hx hb dX8_levelOf_109 ?_
          refine lv_ldc2 hx hb K.2.2.2.1 (K.2.2.2.2.1 _ q1646) dX8_levelOf_110 ?_
          refine lv_ldiv hx hb dX8_levelOf_113 (by decide) ?_
          refine lv_lsub hx hb dX8_levelOf_114 ?_
          obtain ⟨x10, ex10, h1⟩ := lt_out h1
          refine w_long ex10 ?_
          refine lv_lstore (lv' := [(10, .long x10), (0, .ref (am 0)), (1, .int a1), (2, .long y64_l2), (6, .long z95_6), (8, .long z95_8)]) hx hb dX8_levelOf_115 hl (by decide) rfl (fun ls hl => ?_)
          refine lv_lload_n hx hb dX8_levelOf_117 rfl (lv_at hl 3 rfl) ?_
          refine lv_lload hx hb dX8_levelOf_118 (lv_at hl 0 rfl) ?_
          refine lv_lmul hx hb dX8_levelOf_120 ?_
          refine lv_aload_n hx hb dX8_levelOf_121 rfl (lv_at hl 1 rfl) ?_
          refine lv_iload_n hx hb dX8_levelOf_122 rfl (lv_at hl 2 rfl) ?_
          refine lv_lload hx hb dX8_levelOf_123 (lv_at hl 0 rfl) ?_
          obtain ⟨x11, ex11, h1⟩ := ob_out h1
          have kx11 := m_X8_volumesAt l D ca am n M xs a1 x10 x11 ex11 H.size
          refine w_callV0 K X wM_fstx kx11 hl.1 2 q1647 q1649 q50 q97 q1650 hv_X8_volumesAt ⟨⟨Nat.le_of_ble_eq_true rfl, Nat.le_of_ble_eq_true rfl⟩, rfl, rfl⟩ pl_modo rfl rfl rfl rfl (Nat.le_of_ble_eq_true rfl) dX8_levelOf_125 ⟨Nat.le_of_ble_eq_true rfl, Nat.le_of_ble_eq_true rfl⟩ rfl (fun H locs X => ?_)
          refine lv_ladd hx hb dX8_levelOf_128 ?_
          refine lv_aload_n hx hb dX8_levelOf_129 rfl (lv_at hl 1 rfl) ?_
          refine g_modr K X 5 (by decide) (fun _ _ => rfl) q1404 dX8_levelOf_130 ?_
          refine lv_iconst (v := 0) hx hb dX8_levelOf_133 (by decide) ?_
          refine lv_iload_n hx hb dX8_levelOf_134 rfl (lv_at hl 2 rfl) ?_
          refine lv_iadd hx hb dX8_levelOf_135 ?_
          obtain ⟨c12, h1⟩ := if_o h1
          refine a_modl K X 5 5 6 rfl rfl (inb_vp c12) dX8_levelOf_136 ?_
          refine w_bgt (tgt := 148) K dX8_levelOf_137 dX8_levelOf_138 (by decide) (fun c13 => ?_) (fun c13 => ?_)
          · have h1 := if_t c13 h1
            refine lv_lload hx hb dX8_levelOf_148 (lv_at hl 0 rfl) ?_
            refine lv_lconst (v := 1) hx hb dX8_levelOf_150 (by decide) ?_
            refine lv_lsub hx hb dX8_levelOf_151 ?_
            obtain ⟨x14, ex14, h1⟩ := lt_out h1
            refine w_long ex14 ?_
            refine lv_lstore (lv' := [(8, .long x14), (10, .long x10), (0, .ref (am 0)), (1, .int a1), (2, .long y64_l2), (6, .long z95_6)]) hx hb dX8_levelOf_152 hl (by decide) rfl (fun ls hl => ?_)
            exact J154 z95_6 x14 H locs X ls (lv_sub hl [2, 3, 4, 5, 0] rfl) h1
          · have h1 := if_f c13 h1
            refine lv_lload hx hb dX8_levelOf_141 (lv_at hl 0 rfl) ?_
            refine lv_lstore (lv' := [(6, .long x10), (10, .long x10), (0, .ref (am 0)), (1, .int a1), (2, .long y64_l2), (8, .long z95_8)]) hx hb dX8_levelOf_143 hl (by decide) rfl (fun ls hl => ?_)
            refine lv_goto (tgt := 154) hx hb dX8_levelOf_145 (by decide) ?_
            exact J154 x10 z95_8 H locs X ls (lv_sub hl [2, 3, 4, 0, 5] rfl) h1
    exact K95 n x6 x8 H locs X ls (lv_sub hl [2, 3, 4, 1, 0] rfl) he1
  refine lv_aload_n hx hb dX8_levelOf_0 rfl (lv_at hl 0 rfl) ?_
  refine lv_iload_n hx hb dX8_levelOf_1 rfl (lv_at hl 1 rfl) ?_
  refine lv_iconst (v := 1) hx hb dX8_levelOf_2 (by decide) ?_
  obtain ⟨x1, ex1, h0⟩ := ob_out h0
  have kx1 := m_X8_ofLeg l D ca am M xs a1 1 x1 ex1 H.size
  refine w_callV0 K X wM_fstx kx1 hl.1 2 q1627 q1629 q46 q97 q1630 hv_X8_ofLeg ⟨⟨Nat.le_of_ble_eq_true rfl, Nat.le_of_ble_eq_true rfl⟩, rfl, rfl⟩ pl_modo rfl rfl rfl rfl (Nat.le_of_ble_eq_true rfl) dX8_levelOf_3 ⟨Nat.le_of_ble_eq_true rfl, Nat.le_of_ble_eq_true rfl⟩ rfl (fun H locs X => ?_)
  refine lv_i2l hx hb dX8_levelOf_6 rfl ?_
  obtain ⟨x2, ex2, h0⟩ := lt_out h0
  refine w_long ex2 ?_
  refine lv_lstore_n (lv' := [(2, .long x2), (0, .ref (am 0)), (1, .int a1)]) hx hb dX8_levelOf_7 rfl hl (by decide) rfl (fun ls hl => ?_)
  refine lv_lconst (v := 0) hx hb dX8_levelOf_8 (by decide) ?_
  refine lv_lstore (lv' := [(4, .long 0), (2, .long x2), (0, .ref (am 0)), (1, .int a1)]) hx hb dX8_levelOf_9 hl (by decide) rfl (fun ls hl => ?_)
  refine lv_iconst (v := 0) hx hb dX8_levelOf_11 (by decide) ?_
  refine lv_istore (lv' := [(6, .int 0), (4, .long 0), (2, .long x2), (0, .ref (am 0)), (1, .int a1)]) hx hb dX8_levelOf_12 hl (by decide) rfl (fun ls hl => ?_)
  obtain ⟨e_1, he1, h0⟩ := ob_out h0
  have K14 : ∀ (k : Nat) (z14_4 : Int64) (z14_6 : Int32) (H : Heap) (locs : List Loc) (X : RW D (wM am ca M ++ xs) s.heap H locs) (ls : Array Slot) (hl : lv_has ls 12 [(0, .ref (am 0)), (1, .int a1), (2, .long x2), (4, .long z14_4), (6, .int z14_6)]) (hw : wloop (fun t => l_X8_levelOf_14 M a1 t.1 t.2) k (z14_4, z14_6) = some e_1), W p l e rm_X8_levelOf s m args below meth c H locs 0 0 Q (F0 m 14 ls []) := by
    intro k
    induction k with
    | zero => intro z14_4 z14_6 H locs X ls hl hw; exact (wloop_0 hw).elim
    | succ k ih1 =>
      intro z14_4 z14_6 H locs X ls hl hw
      obtain ⟨x_1, h1, hx1⟩ := wloop_out hw
      have h1 : l_X8_levelOf_14 M a1 z14_4 z14_6 = some x_1 := h1
      unfold l_X8_levelOf_14 at h1
      have J55 : ∀ (y55_l6 : Int32) (y55_s0 : Int64) (y55_s1 : Int64) (H : Heap) (locs : List Loc) (X : RW D (wM am ca M ++ xs) s.heap H locs) (ls : Array Slot) (hl : lv_has ls 12 [(0, .ref (am 0)), (1, .int a1), (2, .long x2), (6, .int y55_l6)]) (h1 : b_X8_levelOf_55 y55_l6 y55_s0 y55_s1 = some x_1), W p l e rm_X8_levelOf s m args below meth c H locs 0 0 Q (F0 m 55 ls [.long y55_s1, .long y55_s0]) := by
        intro y55_l6 y55_s0 y55_s1 H locs X ls hl h1
        unfold b_X8_levelOf_55 at h1
        refine lv_ladd hx hb dX8_levelOf_55 ?_
        obtain ⟨x17, ex17, h1⟩ := lt_out h1
        refine w_long ex17 ?_
        refine lv_lstore (lv' := [(4, .long x17), (0, .ref (am 0)), (1, .int a1), (2, .long x2), (6, .int y55_l6)]) hx hb dX8_levelOf_56 hl (by decide) rfl (fun ls hl => ?_)
        obtain ⟨x18, ex18, h1⟩ := lt_out h1
        refine lv_iinc (v := x18) (lv' := [(6, .int x18), (4, .long x17), (0, .ref (am 0)), (1, .int a1), (2, .long x2)]) hx hb dX8_levelOf_58 hl (k := 4) rfl (by rw [ex18]; rfl) (by decide) rfl (fun ls hl => ?_)
        refine lv_goto (tgt := 14) hx hb dX8_levelOf_61 (by decide) ?_
        exact ih1 x17 x18 H locs X ls (lv_sub hl [2, 3, 4, 1, 0] rfl) (wl_l h1 hx1)
      refine lv_iload hx hb dX8_levelOf_14 (lv_at hl 4 rfl) ?_
      refine lv_aload_n hx hb dX8_levelOf_16 rfl (lv_at hl 0 rfl) ?_
      refine g_modr K X 1 (by decide) (fun _ _ => rfl) q1400 dX8_levelOf_17 ?_
      refine lv_iconst (v := 2) hx hb dX8_levelOf_20 (by decide) ?_
      obtain ⟨c3, h1⟩ := if_o h1
      refine a_modi K X 1 1 102 rfl rfl (inb_vp c3) dX8_levelOf_21 ?_
      refine lv_icmp_ge (tgt := 64) hx hb dX8_levelOf_22 (by decide) (fun c4 => ?_) (fun c4 => ?_)
      · have h1 := if_t c4 h1
        have q1 := wl_r h1 hx1
        exact J64 x2 z14_4 H locs X ls (lv_sub hl [0, 1, 2, 3] rfl) (by rw [q1] at h0; exact h0)
      · have h1 := if_f c4 h1
        refine lv_lload hx hb dX8_levelOf_25 (lv_at hl 3 rfl) ?_
        refine lv_aload_n hx hb dX8_levelOf_27 rfl (lv_at hl 0 rfl) ?_
        refine lv_iload hx hb dX8_levelOf_28 (lv_at hl 4 rfl) ?_
        refine lv_iconst (v := 0) hx hb dX8_levelOf_30 (by decide) ?_
        obtain ⟨x15, ex15, h1⟩ := ob_out h1
        have kx15 := m_X8_of l D ca am M xs z14_6 0 x15 ex15 H.size
        refine w_callV0 K X wM_fstx kx15 hl.1 2 q1631 q1633 q47 q97 q1634 hv_X8_of ⟨⟨Nat.le_of_ble_eq_true rfl, Nat.le_of_ble_eq_true rfl⟩, rfl, rfl⟩ pl_modo rfl rfl rfl rfl (Nat.le_of_ble_eq_true rfl) dX8_levelOf_31 ⟨Nat.le_of_ble_eq_true rfl, Nat.le_of_ble_eq_true rfl⟩ rfl (fun H locs X => ?_)
        refine lv_iload_n hx hb dX8_levelOf_34 rfl (lv_at hl 1 rfl) ?_
        refine lv_icmp_ne (tgt := 54) hx hb dX8_levelOf_35 (by decide) (fun c16 => ?_) (fun c16 => ?_)
        · have h1 := if_f c16 h1
          refine lv_lconst (v := 0) hx hb dX8_levelOf_54 (by decide) ?_
          exact J55 z14_6 z14_4 0 H locs X ls (lv_sub hl [0, 1, 2, 4] rfl) h1
        · have h1 := if_t c16 h1
          refine lv_aload_n hx hb dX8_levelOf_38 rfl (lv_at hl 0 rfl) ?_
          refine lv_iload hx hb dX8_levelOf_39 (lv_at hl 4 rfl) ?_
          refine lv_aload_n hx hb dX8_levelOf_41 rfl (lv_at hl 0 rfl) ?_
          refine lv_iload hx hb dX8_levelOf_42 (lv_at hl 4 rfl) ?_
          obtain ⟨x19, ex19, h1⟩ := ob_out h1
          have kx19 := m_X8_fullOf l D ca am M xs z14_6 x19 ex19 H.size
          refine w_callV0 K X wM_fstx kx19 hl.1 1 q1635 q1637 q48 q97 q1638 hv_X8_fullOf ⟨⟨Nat.le_of_ble_eq_true rfl, Nat.le_of_ble_eq_true rfl⟩, rfl, rfl⟩ pl_modo rfl rfl rfl rfl (Nat.le_of_ble_eq_true rfl) dX8_levelOf_44 ⟨Nat.le_of_ble_eq_true rfl, Nat.le_of_ble_eq_true rfl⟩ rfl (fun H locs X => ?_)
          refine lv_i2l hx hb dX8_levelOf_47 rfl ?_
          obtain ⟨x20, ex20, h1⟩ := ob_out h1
          have kx20 := m_X8_volumeFor l D ca am M xs z14_6 x19.toInt64 x20 ex20 H.size
          refine w_callV0 K X wM_fstx kx20 hl.1 2 q1639 q1641 q49 q97 q1642 hv_X8_volumeFor ⟨⟨Nat.le_of_ble_eq_true rfl, Nat.le_of_ble_eq_true rfl⟩, rfl, rfl⟩ pl_modo rfl rfl rfl rfl (Nat.le_of_ble_eq_true rfl) dX8_levelOf_48 ⟨Nat.le_of_ble_eq_true rfl, Nat.le_of_ble_eq_true rfl⟩ rfl (fun H locs X => ?_)
          refine lv_goto (tgt := 55) hx hb dX8_levelOf_51 (by decide) ?_
          exact J55 z14_6 z14_4 x20 H locs X ls (lv_sub hl [0, 1, 2, 4] rfl) h1
  exact K14 n 0 0 H locs X ls (lv_sub hl [3, 4, 2, 1, 0] rfl) he1
-- X8_breaks
def b_X8_breaks_165  (y165_l4 : Int32) (M_165 : RowS) : Option (Int32 × RowS) :=
  some (y165_l4, M_165)
def b_X8_breaks_159  (y159_l4 : Int32) (y159_l5 : Int32) (M_159 : RowS) : Option ((Int32 × Int32 × RowS) ⊕ (Int32 × RowS)) :=
  lt (y159_l5 + 1) fun x6 =>
  some (.inl (y159_l4, x6, M_159))
def b_X8_breaks_100 (a1 : Int32) (y100_l4 : Int32) (y100_l5 : Int32) (y100_l6 : Int64) (y100_s1 : Int32) (y100_s2 : Int32) (M_100 : RowS) : Option ((Int32 × Int32 × RowS) ⊕ (Int32 × RowS)) :=
  if 0 ≤ y100_s1.toInt ∧ y100_s1.toInt < 102 then
    lt (si M_100 1 y100_s1.toNatClampNeg y100_s2) fun Mv17 =>
    if 0 ≤ y100_l6 then
      if 0 ≤ (0 + a1).toInt ∧ (0 + a1).toInt < 6 then
        ob (f_X8_fullOf Mv17 y100_l5) fun x20 =>
        ob (f_X8_volumeFor Mv17 y100_l5 x20.toInt64) fun x21 =>
        if 0 ≤ (0 + a1).toInt ∧ (0 + a1).toInt < 6 then
          lt (sl Mv17 5 (0 + a1).toNatClampNeg ((Mv17.2 5 (0 + a1).toNatClampNeg) - x21)) fun Mv23 =>
          if 0 ≤ (2 + a1).toInt ∧ (2 + a1).toInt < 6 then
            ob (f_X8_fullOf Mv23 y100_l5) fun x25 =>
            ob (f_X8_volumeFor Mv23 y100_l5 x25.toInt64) fun x26 =>
            if 0 ≤ (2 + a1).toInt ∧ (2 + a1).toInt < 6 then
              lt (sl Mv23 5 (2 + a1).toNatClampNeg ((Mv23.2 5 (2 + a1).toNatClampNeg) + x26)) fun Mv28 =>
              b_X8_breaks_159 y100_l4 y100_l5 Mv28
            else none
          else none
        else none
      else none
    else
      b_X8_breaks_159 y100_l4 y100_l5 Mv17
  else none
def l_X8_breaks_12 (a1 : Int32) (x1 : Int64) (z12_4 : Int32) (z12_5 : Int32) (Mz_12 : RowS) : Option ((Int32 × Int32 × RowS) ⊕ (Int32 × RowS)) :=
  if 0 ≤ (2 : Int32).toInt ∧ (2 : Int32).toInt < 102 then
    if (Mz_12.1 1 (2 : Int32).toNatClampNeg) ≤ z12_5 then
      some (.inr (z12_4, Mz_12))
    else
      ob (f_X8_of Mz_12 z12_5 0) fun x4 =>
      if x4 = a1 then
        ob (f_X8_isWhole Mz_12 z12_5) fun x7 =>
        if x7 = true then
          ob (f_X8_runAt Mz_12 z12_5 x1) fun x9 =>
          ob (f_X8_fullOf Mz_12 z12_5) fun x10 =>
          lt (f_X8_in x9 0 x10.toInt64) fun x11 =>
          if x11 = true then
            b_X8_breaks_159 z12_4 z12_5 Mz_12
          else
            lt (z12_4 + 1) fun x13 =>
            lt (f_X8_cell z12_5 6) fun x14 =>
            if 0 ≤ x9 then
              b_X8_breaks_100 a1 x13 z12_5 x9 x14 2 Mz_12
            else
              b_X8_breaks_100 a1 x13 z12_5 x9 x14 1 Mz_12
        else
          b_X8_breaks_159 z12_4 z12_5 Mz_12
      else
        b_X8_breaks_159 z12_4 z12_5 Mz_12
  else none
def f_X8_breaks (n : Nat) (M : RowS) (a1 : Int32) : Option (Int32 × RowS) :=
  ob (f_X8_levelOf n M a1) fun x1 =>
  ob (wloop (fun t => l_X8_breaks_12 a1 x1 t.1 t.2.1 t.2.2) n (0, 0, M)) (fun t => b_X8_breaks_165 t.1 t.2)
abbrev rm_X8_breaks : Room := { frames := 7, cells := 0, slots := 0, locals := 169 }
set_option maxRecDepth 100000 in
set_option maxHeartbeats 4000000 in
theorem m_X8_breaks (l : Launch) (D : va_G) (ca : Nat → ClassId) (am : Nat → Nat) (n : Nat) (M : RowS) (xs : va_W) (a1 : Int32) (res : Int32) (M' : RowS) (h0 : f_X8_breaks n M a1 = some (res, M')) (sz : Nat) : Met l yX8_breaks (ws_ yX8_breaks cX8_breaks 8 (some .int)) rm_X8_breaks (PCw D ca (wM am ca M ++ xs) sz [.ref (am 0), .int a1]) (QMw D (wM am ca M ++ xs) (wM am ca (M') ++ xs) sz (some (.int res))) 0 0 (AL (wM am ca M ++ xs) sz) := by
  refine met_of (by decide) (Nat.le_of_ble_eq_true rfl) (fun p e s m args below meth c K hr0 X hsz ls hl => ?_)
  have K : MC D ca p s m args meth c cX8_breaks 8 RX8 := K
  have hx := K.1
  have hb := K.2.1
  have hl : lv_has ls 8 [(0, .ref (am 0)), (1, .int a1)] := hl
  generalize hQ : MQ below _ args s 0 0 _ = Q
  unfold f_X8_breaks at h0
  suffices Z : ∀ (H : Heap) (locs : List Loc) (X : RW D (wM am ca M ++ xs) s.heap H locs), W p l e rm_X8_breaks s m args below meth c H locs 0 0 Q (F0 m 0 ls []) from Z _ _ X
  intro H locs X
  have J165 : ∀ (y165_l4 : Int32) (M_165 : RowS) (H : Heap) (locs : List Loc) (X : RW D (wM am ca M_165 ++ xs) s.heap H locs) (ls : Array Slot) (hl : lv_has ls 8 [(4, .int y165_l4)]) (h0 : b_X8_breaks_165 y165_l4 M_165 = some (res, M')), W p l e rm_X8_breaks s m args below meth c H locs 0 0 Q (F0 m 165 ls []) := by
    intro y165_l4 M_165 H locs X ls hl h0
    unfold b_X8_breaks_165 at h0
    refine lv_iload hx hb dX8_breaks_165 (lv_at hl 0 rfl) ?_
    have h0 := Option.some.inj h0
    obtain ⟨q_0, q_1⟩ := Prod.mk.inj h0
    subst q_0
    subst q_1
    subst hQ
    exact w_iret K hr0 X wM_fstx hsz dX8_breaks_167
  refine lv_aload_n hx hb dX8_breaks_0 rfl (lv_at hl 0 rfl) ?_
  refine lv_iload_n hx hb dX8_breaks_1 rfl (lv_at hl 1 rfl) ?_
  obtain ⟨x1, ex1, h0⟩ := ob_out h0
  have kx1 := m_X8_levelOf l D ca am n M xs a1 x1 ex1 H.size
  refine w_callV0 K X wM_fstx kx1 hl.1 1 q1623 q1625 q45 q97 q1626 hv_X8_levelOf ⟨⟨Nat.le_of_ble_eq_true rfl, Nat.le_of_ble_eq_true rfl⟩, rfl, rfl⟩ pl_modo rfl rfl rfl rfl (Nat.le_of_ble_eq_true rfl) dX8_breaks_2 ⟨Nat.le_of_ble_eq_true rfl, Nat.le_of_ble_eq_true rfl⟩ rfl (fun H locs X => ?_)
  refine lv_lstore_n (lv' := [(2, .long x1), (0, .ref (am 0)), (1, .int a1)]) hx hb dX8_breaks_5 rfl hl (by decide) rfl (fun ls hl => ?_)
  refine lv_iconst (v := 0) hx hb dX8_breaks_6 (by decide) ?_
  refine lv_istore (lv' := [(4, .int 0), (2, .long x1), (0, .ref (am 0)), (1, .int a1)]) hx hb dX8_breaks_7 hl (by decide) rfl (fun ls hl => ?_)
  refine lv_iconst (v := 0) hx hb dX8_breaks_9 (by decide) ?_
  refine lv_istore (lv' := [(5, .int 0), (4, .int 0), (2, .long x1), (0, .ref (am 0)), (1, .int a1)]) hx hb dX8_breaks_10 hl (by decide) rfl (fun ls hl => ?_)
  obtain ⟨e_1, he1, h0⟩ := ob_out h0
  have K12 : ∀ (k : Nat) (z12_4 : Int32) (z12_5 : Int32) (Mz_12 : RowS) (H : Heap) (locs : List Loc) (X : RW D (wM am ca Mz_12 ++ xs) s.heap H locs) (ls : Array Slot) (hl : lv_has ls 8 [(0, .ref (am 0)), (1, .int a1), (2, .long x1), (4, .int z12_4), (5, .int z12_5)]) (hw : wloop (fun t => l_X8_breaks_12 a1 x1 t.1 t.2.1 t.2.2) k (z12_4, z12_5, Mz_12) = some e_1), W p l e rm_X8_breaks s m args below meth c H locs 0 0 Q (F0 m 12 ls []) := by
    intro k
    induction k with
    | zero => intro z12_4 z12_5 Mz_12 H locs X ls hl hw; exact (wloop_0 hw).elim
    | succ k ih1 =>
      intro z12_4 z12_5 Mz_12 H locs X ls hl hw
      obtain ⟨x_1, h1, hx1⟩ := wloop_out hw
      have h1 : l_X8_breaks_12 a1 x1 z12_4 z12_5 Mz_12 = some x_1 := h1
      unfold l_X8_breaks_12 at h1
      have J159 : ∀ (y159_l4 : Int32) (y159_l5 : Int32) (M_159 : RowS) (H : Heap) (locs : List Loc) (X : RW D (wM am ca M_159 ++ xs) s.heap H locs) (ls : Array Slot) (hl : lv_has ls 8 [(0, .ref (am 0)), (1, .int a1), (2, .long x1), (4, .int y159_l4), (5, .int y159_l5)]) (h1 : b_X8_breaks_159 y159_l4 y159_l5 M_159 = some x_1), W p l e rm_X8_breaks s m args below meth c H locs 0 0 Q (F0 m 159 ls []) := by
        intro y159_l4 y159_l5 M_159 H locs X ls hl h1
        unfold b_X8_breaks_159 at h1
        obtain ⟨x6, ex6, h1⟩ := lt_out h1
        refine lv_iinc (v := x6) (lv' := [(5, .int x6), (0, .ref (am 0)), (1, .int a1), (2, .long x1), (4, .int y159_l4)]) hx hb dX8_breaks_159 hl (k := 4) rfl (by rw [ex6]; rfl) (by decide) rfl (fun ls hl => ?_)
        refine lv_goto (tgt := 12) hx hb dX8_breaks_162 (by decide) ?_
        exact ih1 y159_l4 x6 M_159 H locs X ls (lv_sub hl [1, 2, 3, 4, 0] rfl) (wl_l h1 hx1)
      have J100 : ∀ (y100_l4 : Int32) (y100_l5 : Int32) (y100_l6 : Int64) (y100_s1 : Int32) (y100_s2 : Int32) (M_100 : RowS) (H : Heap) (locs : List Loc) (X : RW D (wM am ca M_100 ++ xs) s.heap H locs) (ls : Array Slot) (hl : lv_has ls 8 [(0, .ref (am 0)), (1, .int a1), (2, .long x1), (4, .int y100_l4), (5, .int y100_l5), (6, .long y100_l6)]) (h1 : b_X8_breaks_100 a1 y100_l4 y100_l5 y100_l6 y100_s1 y100_s2 M_100 = some x_1), W p l e rm_X8_breaks s m args below meth c H locs 0 0 Q (F0 m 100 ls [.int y100_s2, .int y100_s1, .ref (am 1)]) := by
        intro y100_l4 y100_l5 y100_l6 y100_s1 y100_s2 M_100 H locs X ls hl h1
        unfold b_X8_breaks_100 at h1
        obtain ⟨c16, h1⟩ := if_o h1
        obtain ⟨Mv17, eMv17, h1⟩ := lt_out h1
        refine s_modi K X 1 1 102 rfl (fun _ => rfl) (inb_vp c16) eMv17 dX8_breaks_100 (fun H locs X => ?_)
        refine lv_lload hx hb dX8_breaks_101 (lv_at hl 5 rfl) ?_
        refine lv_lconst (v := 0) hx hb dX8_breaks_103 (by decide) ?_
        refine w_bge (tgt := 111) K dX8_breaks_104 dX8_breaks_105 (by decide) (fun c18 => ?_) (fun c18 => ?_)
        · have h1 := if_t c18 h1
          refine lv_aload_n hx hb dX8_breaks_111 rfl (lv_at hl 0 rfl) ?_
          refine g_modr K X 5 (by decide) (fun _ _ => rfl) q1404 dX8_breaks_112 ?_
          refine lv_iconst (v := 0) hx hb dX8_breaks_115 (by decide) ?_
          refine lv_iload_n hx hb dX8_breaks_116 rfl (lv_at hl 1 rfl) ?_
          refine lv_iadd hx hb dX8_breaks_117 ?_
          refine lv_dup2_11 hx hb dX8_breaks_118 rfl rfl ?_
          obtain ⟨c19, h1⟩ := if_o h1
          refine a_modl K X 5 5 6 rfl rfl (inb_vp c19) dX8_breaks_119 ?_
          refine lv_aload_n hx hb dX8_breaks_120 rfl (lv_at hl 0 rfl) ?_
          refine lv_iload hx hb dX8_breaks_121 (lv_at hl 4 rfl) ?_
          refine lv_aload_n hx hb dX8_breaks_123 rfl (lv_at hl 0 rfl) ?_
          refine lv_iload hx hb dX8_breaks_124 (lv_at hl 4 rfl) ?_
          obtain ⟨x20, ex20, h1⟩ := ob_out h1
          have kx20 := m_X8_fullOf l D ca am Mv17 xs y100_l5 x20 ex20 H.size
          refine w_callV0 K X wM_fstx kx20 hl.1 1 q1635 q1637 q48 q97 q1638 hv_X8_fullOf ⟨⟨Nat.le_of_ble_eq_true rfl, Nat.le_of_ble_eq_true rfl⟩, rfl, rfl⟩ pl_modo rfl rfl rfl rfl (Nat.le_of_ble_eq_true rfl) dX8_breaks_126 ⟨Nat.le_of_ble_eq_true rfl, Nat.le_of_ble_eq_true rfl⟩ rfl (fun H locs X => ?_)
          refine lv_i2l hx hb dX8_breaks_129 rfl ?_
          obtain ⟨x21, ex21, h1⟩ := ob_out h1
          have kx21 := m_X8_volumeFor l D ca am Mv17 xs y100_l5 x20.toInt64 x21 ex21 H.size
          refine w_callV0 K X wM_fstx kx21 hl.1 2 q1639 q1641 q49 q97 q1642 hv_X8_volumeFor ⟨⟨Nat.le_of_ble_eq_true rfl, Nat.le_of_ble_eq_true rfl⟩, rfl, rfl⟩ pl_modo rfl rfl rfl rfl (Nat.le_of_ble_eq_true rfl) dX8_breaks_130 ⟨Nat.le_of_ble_eq_true rfl, Nat.le_of_ble_eq_true rfl⟩ rfl (fun H locs X => ?_)
          refine lv_lsub hx hb dX8_breaks_133 ?_
          obtain ⟨c22, h1⟩ := if_o h1
          obtain ⟨Mv23, eMv23, h1⟩ := lt_out h1
          refine s_modl K X 5 5 6 rfl (fun _ => rfl) (inb_vp c22) eMv23 dX8_breaks_134 (fun H locs X => ?_)
          refine lv_aload_n hx hb dX8_breaks_135 rfl (lv_at hl 0 rfl) ?_
          refine g_modr K X 5 (by decide) (fun _ _ => rfl) q1404 dX8_breaks_136 ?_
          refine lv_iconst (v := 2) hx hb dX8_breaks_139 (by decide) ?_
          refine lv_iload_n hx hb dX8_breaks_140 rfl (lv_at hl 1 rfl) ?_
          refine lv_iadd hx hb dX8_breaks_141 ?_
          refine lv_dup2_11 hx hb dX8_breaks_142 rfl rfl ?_
          obtain ⟨c24, h1⟩ := if_o h1
          refine a_modl K X 5 5 6 rfl rfl (inb_vp c24) dX8_breaks_143 ?_
          refine lv_aload_n hx hb dX8_breaks_144 rfl (lv_at hl 0 rfl) ?_
          refine lv_iload hx hb dX8_breaks_145 (lv_at hl 4 rfl) ?_
          refine lv_aload_n hx hb dX8_breaks_147 rfl (lv_at hl 0 rfl) ?_
          refine lv_iload hx hb dX8_breaks_148 (lv_at hl 4 rfl) ?_
          obtain ⟨x25, ex25, h1⟩ := ob_out h1
          have kx25 := m_X8_fullOf l D ca am Mv23 xs y100_l5 x25 ex25 H.size
          refine w_callV0 K X wM_fstx kx25 hl.1 1 q1635 q1637 q48 q97 q1638 hv_X8_fullOf ⟨⟨Nat.le_of_ble_eq_true rfl, Nat.le_of_ble_eq_true rfl⟩, rfl, rfl⟩ pl_modo rfl rfl rfl rfl (Nat.le_of_ble_eq_true rfl) dX8_breaks_150 ⟨Nat.le_of_ble_eq_true rfl, Nat.le_of_ble_eq_true rfl⟩ rfl (fun H locs X => ?_)
          refine lv_i2l hx hb dX8_breaks_153 rfl ?_
          obtain ⟨x26, ex26, h1⟩ := ob_out h1
          have kx26 := m_X8_volumeFor l D ca am Mv23 xs y100_l5 x25.toInt64 x26 ex26 H.size
          refine w_callV0 K X wM_fstx kx26 hl.1 2 q1639 q1641 q49 q97 q1642 hv_X8_volumeFor ⟨⟨Nat.le_of_ble_eq_true rfl, Nat.le_of_ble_eq_true rfl⟩, rfl, rfl⟩ pl_modo rfl rfl rfl rfl (Nat.le_of_ble_eq_true rfl) dX8_breaks_154 ⟨Nat.le_of_ble_eq_true rfl, Nat.le_of_ble_eq_true rfl⟩ rfl (fun H locs X => ?_)
          refine lv_ladd hx hb dX8_breaks_157 ?_
          obtain ⟨c27, h1⟩ := if_o h1
          obtain ⟨Mv28, eMv28, h1⟩ := lt_out h1
          refine s_modl K X 5 5 6 rfl (fun _ => rfl) (inb_vp c27) eMv28 dX8_breaks_158 (fun H locs X => ?_)
          exact J159 y100_l4 y100_l5 Mv28 H locs X ls (lv_sub hl [0, 1, 2, 3, 4] rfl) h1
        · have h1 := if_f c18 h1
          refine lv_goto (tgt := 159) hx hb dX8_breaks_108 (by decide) ?_
          exact J159 y100_l4 y100_l5 Mv17 H locs X ls (lv_sub hl [0, 1, 2, 3, 4] rfl) h1
      refine lv_iload hx hb dX8_breaks_12 (lv_at hl 4 rfl) ?_
      refine lv_aload_n hx hb dX8_breaks_14 rfl (lv_at hl 0 rfl) ?_
      refine g_modr K X 1 (by decide) (fun _ _ => rfl) q1400 dX8_breaks_15 ?_
      refine lv_iconst (v := 2) hx hb dX8_breaks_18 (by decide) ?_
      obtain ⟨c2, h1⟩ := if_o h1
      refine a_modi K X 1 1 102 rfl rfl (inb_vp c2) dX8_breaks_19 ?_
      refine lv_icmp_ge (tgt := 165) hx hb dX8_breaks_20 (by decide) (fun c3 => ?_) (fun c3 => ?_)
      · have h1 := if_t c3 h1
        have q1 := wl_r h1 hx1
        exact J165 z12_4 Mz_12 H locs X ls (lv_sub hl [3] rfl) (by rw [q1] at h0; exact h0)
      · have h1 := if_f c3 h1
        refine lv_aload_n hx hb dX8_breaks_23 rfl (lv_at hl 0 rfl) ?_
        refine lv_iload hx hb dX8_breaks_24 (lv_at hl 4 rfl) ?_
        refine lv_iconst (v := 0) hx hb dX8_breaks_26 (by decide) ?_
        obtain ⟨x4, ex4, h1⟩ := ob_out h1
        have kx4 := m_X8_of l D ca am Mz_12 xs z12_5 0 x4 ex4 H.size
        refine w_callV0 K X wM_fstx kx4 hl.1 2 q1631 q1633 q47 q97 q1634 hv_X8_of ⟨⟨Nat.le_of_ble_eq_true rfl, Nat.le_of_ble_eq_true rfl⟩, rfl, rfl⟩ pl_modo rfl rfl rfl rfl (Nat.le_of_ble_eq_true rfl) dX8_breaks_27 ⟨Nat.le_of_ble_eq_true rfl, Nat.le_of_ble_eq_true rfl⟩ rfl (fun H locs X => ?_)
        refine lv_iload_n hx hb dX8_breaks_30 rfl (lv_at hl 1 rfl) ?_
        refine lv_icmp_ne (tgt := 159) hx hb dX8_breaks_31 (by decide) (fun c5 => ?_) (fun c5 => ?_)
        · have h1 := if_f c5 h1
          exact J159 z12_4 z12_5 Mz_12 H locs X ls (lv_sub hl [0, 1, 2, 3, 4] rfl) h1
        · have h1 := if_t c5 h1
          refine lv_aload_n hx hb dX8_breaks_34 rfl (lv_at hl 0 rfl) ?_
          refine lv_iload hx hb dX8_breaks_35 (lv_at hl 4 rfl) ?_
          obtain ⟨x7, ex7, h1⟩ := ob_out h1
          have kx7 := m_X8_isWhole l D ca am Mz_12 xs z12_5 x7 ex7 H.size
          refine w_callV0 K X wM_fstx kx7 hl.1 1 q1655 q1657 q52 q97 q1658 hv_X8_isWhole ⟨⟨Nat.le_of_ble_eq_true rfl, Nat.le_of_ble_eq_true rfl⟩, rfl, rfl⟩ pl_modo rfl rfl rfl rfl (Nat.le_of_ble_eq_true rfl) dX8_breaks_37 ⟨Nat.le_of_ble_eq_true rfl, Nat.le_of_ble_eq_true rfl⟩ rfl (fun H locs X => ?_)
          refine w_zne (tgt := 46) K dX8_breaks_40 (by decide) (fun c8 => ?_) (fun c8 => ?_)
          · have h1 := if_t c8 h1
            refine lv_aload_n hx hb dX8_breaks_46 rfl (lv_at hl 0 rfl) ?_
            refine lv_iload hx hb dX8_breaks_47 (lv_at hl 4 rfl) ?_
            refine lv_lload_n hx hb dX8_breaks_49 rfl (lv_at hl 2 rfl) ?_
            obtain ⟨x9, ex9, h1⟩ := ob_out h1
            have kx9 := m_X8_runAt l D ca am Mz_12 xs z12_5 x1 x9 ex9 H.size
            refine w_callV0 K X wM_fstx kx9 hl.1 2 q1659 q1661 q53 q97 q1662 hv_X8_runAt ⟨⟨Nat.le_of_ble_eq_true rfl, Nat.le_of_ble_eq_true rfl⟩, rfl, rfl⟩ pl_modo rfl rfl rfl rfl (Nat.le_of_ble_eq_true rfl) dX8_breaks_50 ⟨Nat.le_of_ble_eq_true rfl, Nat.le_of_ble_eq_true rfl⟩ rfl (fun H locs X => ?_)
            refine lv_lstore (lv' := [(6, .long x9), (0, .ref (am 0)), (1, .int a1), (2, .long x1), (4, .int z12_4), (5, .int z12_5)]) hx hb dX8_breaks_53 hl (by decide) rfl (fun ls hl => ?_)
            refine lv_lload hx hb dX8_breaks_55 (lv_at hl 0 rfl) ?_
            refine lv_lconst (v := 0) hx hb dX8_breaks_57 (by decide) ?_
            refine lv_aload_n hx hb dX8_breaks_58 rfl (lv_at hl 1 rfl) ?_
            refine lv_iload hx hb dX8_breaks_59 (lv_at hl 5 rfl) ?_
            obtain ⟨x10, ex10, h1⟩ := ob_out h1
            have kx10 := m_X8_fullOf l D ca am Mz_12 xs z12_5 x10 ex10 H.size
            refine w_callV0 K X wM_fstx kx10 hl.1 1 q1635 q1637 q48 q97 q1638 hv_X8_fullOf ⟨⟨Nat.le_of_ble_eq_true rfl, Nat.le_of_ble_eq_true rfl⟩, rfl, rfl⟩ pl_modo rfl rfl rfl rfl (Nat.le_of_ble_eq_true rfl) dX8_breaks_61 ⟨Nat.le_of_ble_eq_true rfl, Nat.le_of_ble_eq_true rfl⟩ rfl (fun H locs X => ?_)
            refine lv_i2l hx hb dX8_breaks_64 rfl ?_
            obtain ⟨x11, ex11, h1⟩ := lt_out h1
            have kx11 := m_X8_in l D ca (wM am ca Mz_12 ++ xs) x9 0 x10.toInt64 x11 ex11.symm H.size
            refine w_callS0 K X wM_fstx kx11 hl.1 3 q1504 q1505 q97 q1506 hs_X8_in ⟨⟨Nat.le_of_ble_eq_true rfl, Nat.le_of_ble_eq_true rfl⟩, rfl, rfl⟩ rfl rfl (Nat.le_of_ble_eq_true rfl) dX8_breaks_65 ⟨Nat.le_of_ble_eq_true rfl, Nat.le_of_ble_eq_true rfl⟩ rfl (fun H locs X => ?_)
            refine w_zeq (tgt := 74) K dX8_breaks_68 (by decide) (fun c12 => ?_) (fun c12 => ?_)
            · have h1 := if_f c12 h1
              obtain ⟨x13, ex13, h1⟩ := lt_out h1
              refine lv_iinc (v := x13) (lv' := [(4, .int x13), (6, .long x9), (0, .ref (am 0)), (1, .int a1), (2, .long x1), (5, .int z12_5)]) hx hb dX8_breaks_74 hl (k := 4) rfl (by rw [ex13]; rfl) (by decide) rfl (fun ls hl => ?_)
              refine lv_aload_n hx hb dX8_breaks_77 rfl (lv_at hl 2 rfl) ?_
              refine g_modr K X 1 (by decide) (fun _ _ => rfl) q1400 dX8_breaks_78 ?_
              refine lv_iload hx hb dX8_breaks_81 (lv_at hl 5 rfl) ?_
              refine lv_bipush (v := 6) hx hb dX8_breaks_83 (by decide) ?_
              obtain ⟨x14, ex14, h1⟩ := lt_out h1
              have kx14 := m_X8_cell l D ca (wM am ca Mz_12 ++ xs) z12_5 6 x14 ex14.symm H.size
              refine w_callS0 K X wM_fstx kx14 hl.1 2 q1598 q1599 q97 q1600 hs_X8_cell ⟨⟨Nat.le_of_ble_eq_true rfl, Nat.le_of_ble_eq_true rfl⟩, rfl, rfl⟩ rfl rfl (Nat.le_of_ble_eq_true rfl) dX8_breaks_85 ⟨Nat.le_of_ble_eq_true rfl, Nat.le_of_ble_eq_true rfl⟩ rfl (fun H locs X => ?_)
              refine lv_lload hx hb dX8_breaks_88 (lv_at hl 1 rfl) ?_
              refine lv_lconst (v := 0) hx hb dX8_breaks_90 (by decide) ?_
              refine w_bge (tgt := 99) K dX8_breaks_91 dX8_breaks_92 (by decide) (fun c15 => ?_) (fun c15 => ?_)
              · have h1 := if_t c15 h1
                refine lv_iconst (v := 2) hx hb dX8_breaks_99 (by decide) ?_
                exact J100 x13 z12_5 x9 x14 2 Mz_12 H locs X ls (lv_sub hl [2, 3, 4, 0, 5, 1] rfl) h1
              · have h1 := if_f c15 h1
                refine lv_iconst (v := 1) hx hb dX8_breaks_95 (by decide) ?_
                refine lv_goto (tgt := 100) hx hb dX8_breaks_96 (by decide) ?_
                exact J100 x13 z12_5 x9 x14 1 Mz_12 H locs X ls (lv_sub hl [2, 3, 4, 0, 5, 1] rfl) h1
            · have h1 := if_t c12 h1
              refine lv_goto (tgt := 159) hx hb dX8_breaks_71 (by decide) ?_
              exact J159 z12_4 z12_5 Mz_12 H locs X ls (lv_sub hl [1, 2, 3, 4, 5] rfl) h1
          · have h1 := if_f c8 h1
            refine lv_goto (tgt := 159) hx hb dX8_breaks_43 (by decide) ?_
            exact J159 z12_4 z12_5 Mz_12 H locs X ls (lv_sub hl [0, 1, 2, 3, 4] rfl) h1
  exact K12 n 0 0 M H locs X ls (lv_sub hl [3, 4, 2, 1, 0] rfl) he1
-- X8_settles
def b_X8_settles_38  (y38_l1 : Int32) (M_38 : RowS) : Option (Int32 × RowS) :=
  some (y38_l1, M_38)
def b_X8_settles_32  (y32_l1 : Int32) (y32_l2 : Int32) (M_32 : RowS) : Option ((Int32 × Int32 × RowS) ⊕ (Int32 × RowS)) :=
  lt (y32_l2 + 1) fun x6 =>
  some (.inl (y32_l1, x6, M_32))
def l_X8_settles_15 (n : Nat) (z4_2 : Int32) (z15_1 : Int32) (z15_3 : Int32) (Mz_15 : RowS) : Option ((Int32 × Int32 × RowS) ⊕ (Int32 × RowS)) :=
  if z15_3 ≤ 0 then
    some (.inr (z15_1, Mz_15))
  else
    lt (z15_1 + z15_3) fun x7 =>
    ob (f_X8_breaks n Mz_15 z4_2) fun x8 =>
    lt (x8.2) fun Mv9 =>
    lt (x8.1) fun x10 =>
    some (.inl (x7, x10, Mv9))
def l_X8_settles_4 (n : Nat) (z4_1 : Int32) (z4_2 : Int32) (Mz_4 : RowS) : Option ((Int32 × Int32 × RowS) ⊕ (Int32 × RowS)) :=
  if 2 ≤ z4_2 then
    some (.inr (z4_1, Mz_4))
  else
    ob (f_X8_breaks n Mz_4 z4_2) fun x2 =>
    lt (x2.2) fun Mv3 =>
    lt (x2.1) fun x4 =>
    ob (wloop (fun t => l_X8_settles_15 n z4_2 t.1 t.2.1 t.2.2) n (z4_1, x4, Mv3)) (fun t => b_X8_settles_32 t.1 z4_2 t.2)
def f_X8_settles (n : Nat) (M : RowS) : Option (Int32 × RowS) :=
  ob (wloop (fun t => l_X8_settles_4 n t.1 t.2.1 t.2.2) n (0, 0, M)) (fun t => b_X8_settles_38 t.1 t.2)
abbrev rm_X8_settles : Room := { frames := 8, cells := 0, slots := 0, locals := 196 }
set_option maxRecDepth 100000 in
set_option maxHeartbeats 4000000 in
theorem m_X8_settles (l : Launch) (D : va_G) (ca : Nat → ClassId) (am : Nat → Nat) (n : Nat) (M : RowS) (xs : va_W) (res : Int32) (M' : RowS) (h0 : f_X8_settles n M = some (res, M')) (sz : Nat) : Met l yX8_settles (ws_ yX8_settles cX8_settles 4 (some .int)) rm_X8_settles (PCw D ca (wM am ca M ++ xs) sz [.ref (am 0)]) (QMw D (wM am ca M ++ xs) (wM am ca (M') ++ xs) sz (some (.int res))) 0 0 (AL (wM am ca M ++ xs) sz) := by
  refine met_of (by decide) (Nat.le_of_ble_eq_true rfl) (fun p e s m args below meth c K hr0 X hsz ls hl => ?_)
  have K : MC D ca p s m args meth c cX8_settles 4 RX8 := K
  have hx := K.1
  have hb := K.2.1
  have hl : lv_has ls 4 [(0, .ref (am 0))] := hl
  generalize hQ : MQ below _ args s 0 0 _ = Q
  unfold f_X8_settles at h0
  suffices Z : ∀ (H : Heap) (locs : List Loc) (X : RW D (wM am ca M ++ xs) s.heap H locs), W p l e rm_X8_settles s m args below meth c H locs 0 0 Q (F0 m 0 ls []) from Z _ _ X
  intro H locs X
  have J38 : ∀ (y38_l1 : Int32) (M_38 : RowS) (H : Heap) (locs : List Loc) (X : RW D (wM am ca M_38 ++ xs) s.heap H locs) (ls : Array Slot) (hl : lv_has ls 4 [(1, .int y38_l1)]) (h0 : b_X8_settles_38 y38_l1 M_38 = some (res, M')), W p l e rm_X8_settles s m args below meth c H locs 0 0 Q (F0 m 38 ls []) := by
    intro y38_l1 M_38 H locs X ls hl h0
    unfold b_X8_settles_38 at h0
    refine lv_iload_n hx hb dX8_settles_38 rfl (lv_at hl 0 rfl) ?_
    have h0 := Option.some.inj h0
    obtain ⟨q_0, q_1⟩ := Prod.mk.inj h0
    subst q_0
    subst q_1
    subst hQ
    exact w_iret K hr0 X wM_fstx hsz dX8_settles_39
  refine lv_iconst (v := 0) hx hb dX8_settles_0 (by decide) ?_
  refine lv_istore_n (lv' := [(1, .int 0), (0, .ref (am 0))]) hx hb dX8_settles_1 rfl hl (by decide) rfl (fun ls hl => ?_)
  refine lv_iconst (v := 0) hx hb dX8_settles_2 (by decide) ?_
  refine lv_istore_n (lv' := [(2, .int 0), (1, .int 0), (0, .ref (am 0))]) hx hb dX8_settles_3 rfl hl (by decide) rfl (fun ls hl => ?_)
  obtain ⟨e_1, he1, h0⟩ := ob_out h0
  have K4 : ∀ (k : Nat) (z4_1 : Int32) (z4_2 : Int32) (Mz_4 : RowS) (H : Heap) (locs : List Loc) (X : RW D (wM am ca Mz_4 ++ xs) s.heap H locs) (ls : Array Slot) (hl : lv_has ls 4 [(0, .ref (am 0)), (1, .int z4_1), (2, .int z4_2)]) (hw : wloop (fun t => l_X8_settles_4 n t.1 t.2.1 t.2.2) k (z4_1, z4_2, Mz_4) = some e_1), W p l e rm_X8_settles s m args below meth c H locs 0 0 Q (F0 m 4 ls []) := by
    intro k
    induction k with
    | zero => intro z4_1 z4_2 Mz_4 H locs X ls hl hw; exact (wloop_0 hw).elim
    | succ k ih1 =>
      intro z4_1 z4_2 Mz_4 H locs X ls hl hw
      obtain ⟨x_1, h1, hx1⟩ := wloop_out hw
      have h1 : l_X8_settles_4 n z4_1 z4_2 Mz_4 = some x_1 := h1
      unfold l_X8_settles_4 at h1
      have J32 : ∀ (y32_l1 : Int32) (y32_l2 : Int32) (M_32 : RowS) (H : Heap) (locs : List Loc) (X : RW D (wM am ca M_32 ++ xs) s.heap H locs) (ls : Array Slot) (hl : lv_has ls 4 [(0, .ref (am 0)), (1, .int y32_l1), (2, .int y32_l2)]) (h1 : b_X8_settles_32 y32_l1 y32_l2 M_32 = some x_1), W p l e rm_X8_settles s m args below meth c H locs 0 0 Q (F0 m 32 ls []) := by
        intro y32_l1 y32_l2 M_32 H locs X ls hl h1
        unfold b_X8_settles_32 at h1
        obtain ⟨x6, ex6, h1⟩ := lt_out h1
        refine lv_iinc (v := x6) (lv' := [(2, .int x6), (0, .ref (am 0)), (1, .int y32_l1)]) hx hb dX8_settles_32 hl (k := 2) rfl (by rw [ex6]; rfl) (by decide) rfl (fun ls hl => ?_)
        refine lv_goto (tgt := 4) hx hb dX8_settles_35 (by decide) ?_
        exact ih1 y32_l1 x6 M_32 H locs X ls (lv_sub hl [1, 2, 0] rfl) (wl_l h1 hx1)
      refine lv_iload_n hx hb dX8_settles_4 rfl (lv_at hl 2 rfl) ?_
      refine lv_iconst (v := 2) hx hb dX8_settles_5 (by decide) ?_
      refine lv_icmp_ge (tgt := 38) hx hb dX8_settles_6 (by decide) (fun c1 => ?_) (fun c1 => ?_)
      · have h1 := if_t c1 h1
        have q1 := wl_r h1 hx1
        exact J38 z4_1 Mz_4 H locs X ls (lv_sub hl [1] rfl) (by rw [q1] at h0; exact h0)
      · have h1 := if_f c1 h1
        refine lv_aload_n hx hb dX8_settles_9 rfl (lv_at hl 0 rfl) ?_
        refine lv_iload_n hx hb dX8_settles_10 rfl (lv_at hl 2 rfl) ?_
        obtain ⟨x2, ex2, h1⟩ := ob_out h1
        obtain ⟨Mv3, eMv3, h1⟩ := lt_out h1
        have kx2 := m_X8_breaks l D ca am n Mz_4 xs z4_2 x2.1 x2.2 ex2 H.size
        rw [← eMv3] at kx2
        refine w_callV0 K X wM_fstx kx2 hl.1 1 q1619 q1621 q44 q97 q1622 hv_X8_breaks ⟨⟨Nat.le_of_ble_eq_true rfl, Nat.le_of_ble_eq_true rfl⟩, rfl, rfl⟩ pl_modo rfl rfl rfl rfl (Nat.le_of_ble_eq_true rfl) dX8_settles_11 ⟨Nat.le_of_ble_eq_true rfl, Nat.le_of_ble_eq_true rfl⟩ rfl (fun H locs X => ?_)
        obtain ⟨x4, ex4, h1⟩ := lt_out h1
        refine w_int ex4 ?_
        refine lv_istore_n (lv' := [(3, .int x4), (0, .ref (am 0)), (1, .int z4_1), (2, .int z4_2)]) hx hb dX8_settles_14 rfl hl (by decide) rfl (fun ls hl => ?_)
        obtain ⟨e_2, he2, h1⟩ := ob_out h1
        have K15 : ∀ (k : Nat) (z15_1 : Int32) (z15_3 : Int32) (Mz_15 : RowS) (H : Heap) (locs : List Loc) (X : RW D (wM am ca Mz_15 ++ xs) s.heap H locs) (ls : Array Slot) (hl : lv_has ls 4 [(0, .ref (am 0)), (1, .int z15_1), (2, .int z4_2), (3, .int z15_3)]) (hw : wloop (fun t => l_X8_settles_15 n z4_2 t.1 t.2.1 t.2.2) k (z15_1, z15_3, Mz_15) = some e_2), W p l e rm_X8_settles s m args below meth c H locs 0 0 Q (F0 m 15 ls []) := by
          intro k
          induction k with
          | zero => intro z15_1 z15_3 Mz_15 H locs X ls hl hw; exact (wloop_0 hw).elim
          | succ k ih2 =>
            intro z15_1 z15_3 Mz_15 H locs X ls hl hw
            obtain ⟨x_2, h2, hx2⟩ := wloop_out hw
            have h2 : l_X8_settles_15 n z4_2 z15_1 z15_3 Mz_15 = some x_2 := h2
            unfold l_X8_settles_15 at h2
            refine lv_iload_n hx hb dX8_settles_15 rfl (lv_at hl 3 rfl) ?_
            refine lv_if_le (tgt := 32) hx hb dX8_settles_16 (by decide) (fun c5 => ?_) (fun c5 => ?_)
            · have h2 := if_t c5 h2
              have q2 := wl_r h2 hx2
              exact J32 z15_1 z4_2 Mz_15 H locs X ls (lv_sub hl [0, 1, 2] rfl) (by rw [q2] at h1; exact h1)
            · have h2 := if_f c5 h2
              refine lv_iload_n hx hb dX8_settles_19 rfl (lv_at hl 1 rfl) ?_
              refine lv_iload_n hx hb dX8_settles_20 rfl (lv_at hl 3 rfl) ?_
              refine lv_iadd hx hb dX8_settles_21 ?_
              obtain ⟨x7, ex7, h2⟩ := lt_out h2
              refine w_int ex7 ?_
              refine lv_istore_n (lv' := [(1, .int x7), (0, .ref (am 0)), (2, .int z4_2), (3, .int z15_3)]) hx hb dX8_settles_22 rfl hl (by decide) rfl (fun ls hl => ?_)
              refine lv_aload_n hx hb dX8_settles_23 rfl (lv_at hl 1 rfl) ?_
              refine lv_iload_n hx hb dX8_settles_24 rfl (lv_at hl 2 rfl) ?_
              obtain ⟨x8, ex8, h2⟩ := ob_out h2
              obtain ⟨Mv9, eMv9, h2⟩ := lt_out h2
              have kx8 := m_X8_breaks l D ca am n Mz_15 xs z4_2 x8.1 x8.2 ex8 H.size
              rw [← eMv9] at kx8
              refine w_callV0 K X wM_fstx kx8 hl.1 1 q1619 q1621 q44 q97 q1622 hv_X8_breaks ⟨⟨Nat.le_of_ble_eq_true rfl, Nat.le_of_ble_eq_true rfl⟩, rfl, rfl⟩ pl_modo rfl rfl rfl rfl (Nat.le_of_ble_eq_true rfl) dX8_settles_25 ⟨Nat.le_of_ble_eq_true rfl, Nat.le_of_ble_eq_true rfl⟩ rfl (fun H locs X => ?_)
              obtain ⟨x10, ex10, h2⟩ := lt_out h2
              refine w_int ex10 ?_
              refine lv_istore_n (lv' := [(3, .int x10), (1, .int x7), (0, .ref (am 0)), (2, .int z4_2)]) hx hb dX8_settles_28 rfl hl (by decide) rfl (fun ls hl => ?_)
              refine lv_goto (tgt := 15) hx hb dX8_settles_29 (by decide) ?_
              exact ih2 x7 x10 Mv9 H locs X ls (lv_sub hl [2, 1, 3, 0] rfl) (wl_l h2 hx2)
        exact K15 n z4_1 x4 Mv3 H locs X ls (lv_sub hl [1, 2, 3, 0] rfl) he2
  exact K4 n 0 0 M H locs X ls (lv_sub hl [2, 1, 0] rfl) he1
-- X8_load
def f_X8_load (n : Nat) (M : RowS) (a1 : Int32) : Option (Int32 × RowS) :=
  lt (si M 0 0 0) fun Mv1 =>
  lt (f_X8_in a1.toInt64 0 ((Mv1.1 0 12).toInt64)) fun x2 =>
  lt (f_X8_fails Mv1 (b2i x2) 1) fun x3 =>
  lt (x3.2) fun Mv4 =>
  if x3.1 = true then
    some (0, Mv4)
  else
    ob (f_X8_laysAside n Mv4) fun x6 =>
    lt (x6) fun Mv7 =>
    ob (f_X8_starts n Mv7 a1) fun x8 =>
    lt (x8) fun Mv9 =>
    ob (f_X8_readsAll n Mv9) fun x10 =>
    lt (x10) fun Mv11 =>
    lt (f_X8_isGood Mv11) fun x12 =>
    if x12 = true then
      ob (f_X8_settles n Mv11) fun x14 =>
      lt (x14.2) fun Mv15 =>
      lt (x14.1) fun x16 =>
      lt (si Mv15 0 9 0) fun Mv17 =>
      lt (si Mv17 0 10 0) fun Mv18 =>
      ob (f_X8_many n Mv18 0) fun x19 =>
      some (x19, Mv18)
    else
      ob (f_X8_laysBack n Mv11) fun x20 =>
      lt (x20) fun Mv21 =>
      some (((-10) - (Mv21.1 0 19)), Mv21)
abbrev rm_X8_load : Room := { frames := 9, cells := 0, slots := 0, locals := 219 }
set_option maxRecDepth 100000 in
set_option maxHeartbeats 4000000 in
theorem m_X8_load (l : Launch) (D : va_G) (ca : Nat → ClassId) (am : Nat → Nat) (n : Nat) (M : RowS) (xs : va_W) (a1 : Int32) (res : Int32) (M' : RowS) (h0 : f_X8_load n M a1 = some (res, M')) (sz : Nat) : Met l yX8_load (ws_ yX8_load cX8_load 3 (some .int)) rm_X8_load (PCw D ca (wM am ca M ++ xs) sz [.ref (am 0), .int a1]) (QMw D (wM am ca M ++ xs) (wM am ca (M') ++ xs) sz (some (.int res))) 0 0 (AL (wM am ca M ++ xs) sz) := by
  refine met_of (by decide) (Nat.le_of_ble_eq_true rfl) (fun p e s m args below meth c K hr0 X hsz ls hl => ?_)
  have K : MC D ca p s m args meth c cX8_load 3 RX8 := K
  have hx := K.1
  have hb := K.2.1
  have hl : lv_has ls 3 [(0, .ref (am 0)), (1, .int a1)] := hl
  generalize hQ : MQ below _ args s 0 0 _ = Q
  unfold f_X8_load at h0
  suffices Z : ∀ (H : Heap) (locs : List Loc) (X : RW D (wM am ca M ++ xs) s.heap H locs), W p l e rm_X8_load s m args below meth c H locs 0 0 Q (F0 m 0 ls []) from Z _ _ X
  intro H locs X
  refine lv_aload_n hx hb dX8_load_0 rfl (lv_at hl 0 rfl) ?_
  refine lv_iconst (v := 0) hx hb dX8_load_1 (by decide) ?_
  obtain ⟨Mv1, eMv1, h0⟩ := lt_out h0
  refine p_modi (ty := .int) K X 0 (by decide) (fun _ _ => rfl) (by decide +kernel) ⟨rfl, rfl⟩ eMv1 q1399 dX8_load_2 (fun H locs X => ?_)
  refine lv_aload_n hx hb dX8_load_5 rfl (lv_at hl 0 rfl) ?_
  refine lv_iload_n hx hb dX8_load_6 rfl (lv_at hl 1 rfl) ?_
  refine lv_i2l hx hb dX8_load_7 rfl ?_
  refine lv_lconst (v := 0) hx hb dX8_load_8 (by decide) ?_
  refine lv_aload_n hx hb dX8_load_9 rfl (lv_at hl 0 rfl) ?_
  refine g_modi K X 12 (by decide) (fun _ _ => rfl) q1411 dX8_load_10 ?_
  refine lv_i2l hx hb dX8_load_13 rfl ?_
  obtain ⟨x2, ex2, h0⟩ := lt_out h0
  have kx2 := m_X8_in l D ca (wM am ca Mv1 ++ xs) a1.toInt64 0 ((Mv1.1 0 12).toInt64) x2 ex2.symm H.size
  refine w_callS0 K X wM_fstx kx2 hl.1 3 q1504 q1505 q97 q1506 hs_X8_in ⟨⟨Nat.le_of_ble_eq_true rfl, Nat.le_of_ble_eq_true rfl⟩, rfl, rfl⟩ rfl rfl (Nat.le_of_ble_eq_true rfl) dX8_load_14 ⟨Nat.le_of_ble_eq_true rfl, Nat.le_of_ble_eq_true rfl⟩ rfl (fun H locs X => ?_)
  refine lv_iconst (v := 1) hx hb dX8_load_17 (by decide) ?_
  obtain ⟨x3, ex3, h0⟩ := lt_out h0
  obtain ⟨Mv4, eMv4, h0⟩ := lt_out h0
  have kx3 := m_X8_fails l D ca am Mv1 xs (b2i x2) 1 x3.1 x3.2 ex3.symm H.size
  rw [← eMv4] at kx3
  refine w_callV0 K X wM_fstx kx3 hl.1 2 q1507 q1509 q22 q97 q1510 hv_X8_fails ⟨⟨Nat.le_of_ble_eq_true rfl, Nat.le_of_ble_eq_true rfl⟩, rfl, rfl⟩ pl_modo rfl rfl rfl rfl (Nat.le_of_ble_eq_true rfl) dX8_load_18 ⟨Nat.le_of_ble_eq_true rfl, Nat.le_of_ble_eq_true rfl⟩ rfl (fun H locs X => ?_)
  refine w_zeq (tgt := 26) K dX8_load_21 (by decide) (fun c5 => ?_) (fun c5 => ?_)
  · have h0 := if_f c5 h0
    refine lv_aload_n hx hb dX8_load_26 rfl (lv_at hl 0 rfl) ?_
    obtain ⟨x6, ex6, h0⟩ := ob_out h0
    obtain ⟨Mv7, eMv7, h0⟩ := lt_out h0
    have kx6 := m_X8_laysAside l D ca am n Mv4 xs x6 ex6 H.size
    rw [← eMv7] at kx6
    refine w_callV0 K X wM_fstx kx6 hl.1 0 q1511 q1513 q23 q97 q1514 hv_X8_laysAside ⟨⟨Nat.le_of_ble_eq_true rfl, Nat.le_of_ble_eq_true rfl⟩, rfl, rfl⟩ pl_modo rfl rfl rfl rfl (Nat.le_of_ble_eq_true rfl) dX8_load_27 ⟨Nat.le_of_ble_eq_true rfl, Nat.le_of_ble_eq_true rfl⟩ rfl (fun H locs X => ?_)
    refine lv_aload_n hx hb dX8_load_30 rfl (lv_at hl 0 rfl) ?_
    refine lv_iload_n hx hb dX8_load_31 rfl (lv_at hl 1 rfl) ?_
    obtain ⟨x8, ex8, h0⟩ := ob_out h0
    obtain ⟨Mv9, eMv9, h0⟩ := lt_out h0
    have kx8 := m_X8_starts l D ca am n Mv7 xs a1 x8 ex8 H.size
    rw [← eMv9] at kx8
    refine w_callV0 K X wM_fstx kx8 hl.1 1 q1521 q1523 q24 q97 q1524 hv_X8_starts ⟨⟨Nat.le_of_ble_eq_true rfl, Nat.le_of_ble_eq_true rfl⟩, rfl, rfl⟩ pl_modo rfl rfl rfl rfl (Nat.le_of_ble_eq_true rfl) dX8_load_32 ⟨Nat.le_of_ble_eq_true rfl, Nat.le_of_ble_eq_true rfl⟩ rfl (fun H locs X => ?_)
    refine lv_aload_n hx hb dX8_load_35 rfl (lv_at hl 0 rfl) ?_
    obtain ⟨x10, ex10, h0⟩ := ob_out h0
    obtain ⟨Mv11, eMv11, h0⟩ := lt_out h0
    have kx10 := m_X8_readsAll l D ca am n Mv9 xs x10 ex10 H.size
    rw [← eMv11] at kx10
    refine w_callV0 K X wM_fstx kx10 hl.1 0 q1550 q1552 q29 q97 q1553 hv_X8_readsAll ⟨⟨Nat.le_of_ble_eq_true rfl, Nat.le_of_ble_eq_true rfl⟩, rfl, rfl⟩ pl_modo rfl rfl rfl rfl (Nat.le_of_ble_eq_true rfl) dX8_load_36 ⟨Nat.le_of_ble_eq_true rfl, Nat.le_of_ble_eq_true rfl⟩ rfl (fun H locs X => ?_)
    refine lv_aload_n hx hb dX8_load_39 rfl (lv_at hl 0 rfl) ?_
    obtain ⟨x12, ex12, h0⟩ := lt_out h0
    have kx12 := m_X8_isGood l D ca am Mv11 xs x12 ex12.symm H.size
    refine w_callV0 K X wM_fstx kx12 hl.1 0 q1563 q1565 q32 q97 q1566 hv_X8_isGood ⟨⟨Nat.le_of_ble_eq_true rfl, Nat.le_of_ble_eq_true rfl⟩, rfl, rfl⟩ pl_modo rfl rfl rfl rfl (Nat.le_of_ble_eq_true rfl) dX8_load_40 ⟨Nat.le_of_ble_eq_true rfl, Nat.le_of_ble_eq_true rfl⟩ rfl (fun H locs X => ?_)
    refine w_zne (tgt := 58) K dX8_load_43 (by decide) (fun c13 => ?_) (fun c13 => ?_)
    · have h0 := if_t c13 h0
      refine lv_aload_n hx hb dX8_load_58 rfl (lv_at hl 0 rfl) ?_
      obtain ⟨x14, ex14, h0⟩ := ob_out h0
      obtain ⟨Mv15, eMv15, h0⟩ := lt_out h0
      have kx14 := m_X8_settles l D ca am n Mv11 xs x14.1 x14.2 ex14 H.size
      rw [← eMv15] at kx14
      refine w_callV0 K X wM_fstx kx14 hl.1 0 q1615 q1617 q43 q97 q1618 hv_X8_settles ⟨⟨Nat.le_of_ble_eq_true rfl, Nat.le_of_ble_eq_true rfl⟩, rfl, rfl⟩ pl_modo rfl rfl rfl rfl (Nat.le_of_ble_eq_true rfl) dX8_load_59 ⟨Nat.le_of_ble_eq_true rfl, Nat.le_of_ble_eq_true rfl⟩ rfl (fun H locs X => ?_)
      obtain ⟨x16, ex16, h0⟩ := lt_out h0
      refine w_int ex16 ?_
      refine lv_istore_n (lv' := [(2, .int x16), (0, .ref (am 0)), (1, .int a1)]) hx hb dX8_load_62 rfl hl (by decide) rfl (fun ls hl => ?_)
      refine lv_aload_n hx hb dX8_load_63 rfl (lv_at hl 1 rfl) ?_
      refine lv_iconst (v := 0) hx hb dX8_load_64 (by decide) ?_
      obtain ⟨Mv17, eMv17, h0⟩ := lt_out h0
      refine p_modi (ty := .int) K X 9 (by decide) (fun _ _ => rfl) (by decide +kernel) ⟨rfl, rfl⟩ eMv17 q1408 dX8_load_65 (fun H locs X => ?_)
      refine lv_aload_n hx hb dX8_load_68 rfl (lv_at hl 1 rfl) ?_
      refine lv_iconst (v := 0) hx hb dX8_load_69 (by decide) ?_
      obtain ⟨Mv18, eMv18, h0⟩ := lt_out h0
      refine p_modi (ty := .boolean) K X 10 (by decide) (fun _ _ => rfl) (by decide +kernel) ⟨rfl, rfl⟩ eMv18 q1409 dX8_load_70 (fun H locs X => ?_)
      refine lv_aload_n hx hb dX8_load_73 rfl (lv_at hl 1 rfl) ?_
      refine lv_iconst (v := 0) hx hb dX8_load_74 (by decide) ?_
      obtain ⟨x19, ex19, h0⟩ := ob_out h0
      have kx19 := m_X8_many l D ca am n Mv18 xs 0 x19 ex19 H.size
      refine w_callV0 K X wM_fstx kx19 hl.1 1 q1672 q1674 q56 q97 q1675 hv_X8_many ⟨⟨Nat.le_of_ble_eq_true rfl, Nat.le_of_ble_eq_true rfl⟩, rfl, rfl⟩ pl_modo rfl rfl rfl rfl (Nat.le_of_ble_eq_true rfl) dX8_load_75 ⟨Nat.le_of_ble_eq_true rfl, Nat.le_of_ble_eq_true rfl⟩ rfl (fun H locs X => ?_)
      have h0 := Option.some.inj h0
      obtain ⟨q_0, q_1⟩ := Prod.mk.inj h0
      subst q_0
      subst q_1
      subst hQ
      exact w_iret K hr0 X wM_fstx hsz dX8_load_78
    · have h0 := if_f c13 h0
      refine lv_aload_n hx hb dX8_load_46 rfl (lv_at hl 0 rfl) ?_
      obtain ⟨x20, ex20, h0⟩ := ob_out h0
      obtain ⟨Mv21, eMv21, h0⟩ := lt_out h0
      have kx20 := m_X8_laysBack l D ca am n Mv11 xs x20 ex20 H.size
      rw [← eMv21] at kx20
      refine w_callV0 K X wM_fstx kx20 hl.1 0 q1611 q1613 q42 q97 q1614 hv_X8_laysBack ⟨⟨Nat.le_of_ble_eq_true rfl, Nat.le_of_ble_eq_true rfl⟩, rfl, rfl⟩ pl_modo rfl rfl rfl rfl (Nat.le_of_ble_eq_true rfl) dX8_load_47 ⟨Nat.le_of_ble_eq_true rfl, Nat.le_of_ble_eq_true rfl⟩ rfl (fun H locs X => ?_)
      refine lv_bipush (v := (-10)) hx hb dX8_load_50 (by decide) ?_
      refine lv_aload_n hx hb dX8_load_52 rfl (lv_at hl 0 rfl) ?_
      refine g_modi K X 19 (by decide) (fun _ _ => rfl) q1418 dX8_load_53 ?_
      refine lv_isub hx hb dX8_load_56 ?_
      have h0 := Option.some.inj h0
      obtain ⟨q_0, q_1⟩ := Prod.mk.inj h0
      subst q_0
      subst q_1
      subst hQ
      exact w_iret K hr0 X wM_fstx hsz dX8_load_57
  · have h0 := if_t c5 h0
    refine lv_iconst (v := 0) hx hb dX8_load_24 (by decide) ?_
    have h0 := Option.some.inj h0
    obtain ⟨q_0, q_1⟩ := Prod.mk.inj h0
    subst q_0
    subst q_1
    subst hQ
    exact w_iret K hr0 X wM_fstx hsz dX8_load_25
-- X8_columnOf
def f_X8_columnOf (n : Nat) (M : RowS) (a1 : Int32) : Option Int32 :=
  ob (f_X8_of M a1 0) fun x1 =>
  ob (f_X8_levelOf n M x1) fun x2 =>
  ob (f_X8_columnAt M a1 x2) fun x3 =>
  some x3.toInt32
abbrev rm_X8_columnOf : Room := { frames := 7, cells := 0, slots := 0, locals := 169 }
set_option maxRecDepth 100000 in
set_option maxHeartbeats 4000000 in
theorem m_X8_columnOf (l : Launch) (D : va_G) (ca : Nat → ClassId) (am : Nat → Nat) (n : Nat) (M : RowS) (xs : va_W) (a1 : Int32) (res : Int32) (h0 : f_X8_columnOf n M a1 = some res) (sz : Nat) : Met l yX8_columnOf (ws_ yX8_columnOf cX8_columnOf 2 (some .int)) rm_X8_columnOf (PCw D ca (wM am ca M ++ xs) sz [.ref (am 0), .int a1]) (QMw D (wM am ca M ++ xs) (wM am ca M ++ xs) sz (some (.int res))) 0 0 (AL (wM am ca M ++ xs) sz) := by
  refine met_of (by decide) (Nat.le_of_ble_eq_true rfl) (fun p e s m args below meth c K hr0 X hsz ls hl => ?_)
  have K : MC D ca p s m args meth c cX8_columnOf 2 RX8 := K
  have hx := K.1
  have hb := K.2.1
  have hl : lv_has ls 2 [(0, .ref (am 0)), (1, .int a1)] := hl
  generalize hQ : MQ below _ args s 0 0 _ = Q
  unfold f_X8_columnOf at h0
  suffices Z : ∀ (H : Heap) (locs : List Loc) (X : RW D (wM am ca M ++ xs) s.heap H locs), W p l e rm_X8_columnOf s m args below meth c H locs 0 0 Q (F0 m 0 ls []) from Z _ _ X
  intro H locs X
  refine lv_aload_n hx hb dX8_columnOf_0 rfl (lv_at hl 0 rfl) ?_
  refine lv_iload_n hx hb dX8_columnOf_1 rfl (lv_at hl 1 rfl) ?_
  refine lv_aload_n hx hb dX8_columnOf_2 rfl (lv_at hl 0 rfl) ?_
  refine lv_aload_n hx hb dX8_columnOf_3 rfl (lv_at hl 0 rfl) ?_
  refine lv_iload_n hx hb dX8_columnOf_4 rfl (lv_at hl 1 rfl) ?_
  refine lv_iconst (v := 0) hx hb dX8_columnOf_5 (by decide) ?_
  obtain ⟨x1, ex1, h0⟩ := ob_out h0
  have kx1 := m_X8_of l D ca am M xs a1 0 x1 ex1 H.size
  refine w_callV0 K X wM_fstx kx1 hl.1 2 q1631 q1633 q47 q97 q1634 hv_X8_of ⟨⟨Nat.le_of_ble_eq_true rfl, Nat.le_of_ble_eq_true rfl⟩, rfl, rfl⟩ pl_modo rfl rfl rfl rfl (Nat.le_of_ble_eq_true rfl) dX8_columnOf_6 ⟨Nat.le_of_ble_eq_true rfl, Nat.le_of_ble_eq_true rfl⟩ rfl (fun H locs X => ?_)
  obtain ⟨x2, ex2, h0⟩ := ob_out h0
  have kx2 := m_X8_levelOf l D ca am n M xs x1 x2 ex2 H.size
  refine w_callV0 K X wM_fstx kx2 hl.1 1 q1623 q1625 q45 q97 q1626 hv_X8_levelOf ⟨⟨Nat.le_of_ble_eq_true rfl, Nat.le_of_ble_eq_true rfl⟩, rfl, rfl⟩ pl_modo rfl rfl rfl rfl (Nat.le_of_ble_eq_true rfl) dX8_columnOf_9 ⟨Nat.le_of_ble_eq_true rfl, Nat.le_of_ble_eq_true rfl⟩ rfl (fun H locs X => ?_)
  obtain ⟨x3, ex3, h0⟩ := ob_out h0
  have kx3 := m_X8_columnAt l D ca am M xs a1 x2 x3 ex3 H.size
  refine w_callV0 K X wM_fstx kx3 hl.1 2 q1651 q1653 q51 q97 q1654 hv_X8_columnAt ⟨⟨Nat.le_of_ble_eq_true rfl, Nat.le_of_ble_eq_true rfl⟩, rfl, rfl⟩ pl_modo rfl rfl rfl rfl (Nat.le_of_ble_eq_true rfl) dX8_columnOf_12 ⟨Nat.le_of_ble_eq_true rfl, Nat.le_of_ble_eq_true rfl⟩ rfl (fun H locs X => ?_)
  refine lv_l2i hx hb dX8_columnOf_15 rfl ?_
  have h0 := Option.some.inj h0
  subst h0
  subst hQ
  exact w_iret K hr0 X wM_fstx hsz dX8_columnOf_16
-- X8_readingOf
def f_X8_readingOf (n : Nat) (M : RowS) (a1 : Int32) : Option Int32 :=
  ob (f_X8_columnOf n M a1) fun x1 =>
  ob (f_X8_of M a1 5) fun x2 =>
  some ((x1 / 10) + x2)
abbrev rm_X8_readingOf : Room := { frames := 8, cells := 0, slots := 0, locals := 190 }
set_option maxRecDepth 100000 in
set_option maxHeartbeats 4000000 in
theorem m_X8_readingOf (l : Launch) (D : va_G) (ca : Nat → ClassId) (am : Nat → Nat) (n : Nat) (M : RowS) (xs : va_W) (a1 : Int32) (res : Int32) (h0 : f_X8_readingOf n M a1 = some res) (sz : Nat) : Met l yX8_readingOf (ws_ yX8_readingOf cX8_readingOf 2 (some .int)) rm_X8_readingOf (PCw D ca (wM am ca M ++ xs) sz [.ref (am 0), .int a1]) (QMw D (wM am ca M ++ xs) (wM am ca M ++ xs) sz (some (.int res))) 0 0 (AL (wM am ca M ++ xs) sz) := by
  refine met_of (by decide) (Nat.le_of_ble_eq_true rfl) (fun p e s m args below meth c K hr0 X hsz ls hl => ?_)
  have K : MC D ca p s m args meth c cX8_readingOf 2 RX8 := K
  have hx := K.1
  have hb := K.2.1
  have hl : lv_has ls 2 [(0, .ref (am 0)), (1, .int a1)] := hl
  generalize hQ : MQ below _ args s 0 0 _ = Q
  unfold f_X8_readingOf at h0
  suffices Z : ∀ (H : Heap) (locs : List Loc) (X : RW D (wM am ca M ++ xs) s.heap H locs), W p l e rm_X8_readingOf s m args below meth c H locs 0 0 Q (F0 m 0 ls []) from Z _ _ X
  intro H locs X
  refine lv_aload_n hx hb dX8_readingOf_0 rfl (lv_at hl 0 rfl) ?_
  refine lv_iload_n hx hb dX8_readingOf_1 rfl (lv_at hl 1 rfl) ?_
  obtain ⟨x1, ex1, h0⟩ := ob_out h0
  have kx1 := m_X8_columnOf l D ca am n M xs a1 x1 ex1 H.size
  refine w_callV0 K X wM_fstx kx1 hl.1 1 q1719 q1721 q61 q97 q1722 hv_X8_columnOf ⟨⟨Nat.le_of_ble_eq_true rfl, Nat.le_of_ble_eq_true rfl⟩, rfl, rfl⟩ pl_modo rfl rfl rfl rfl (Nat.le_of_ble_eq_true rfl) dX8_readingOf_2 ⟨Nat.le_of_ble_eq_true rfl, Nat.le_of_ble_eq_true rfl⟩ rfl (fun H locs X => ?_)
  refine lv_bipush (v := 10) hx hb dX8_readingOf_5 (by decide) ?_
  refine lv_idiv hx hb dX8_readingOf_7 (by decide) ?_
  refine lv_aload_n hx hb dX8_readingOf_8 rfl (lv_at hl 0 rfl) ?_
  refine lv_iload_n hx hb dX8_readingOf_9 rfl (lv_at hl 1 rfl) ?_
  refine lv_iconst (v := 5) hx hb dX8_readingOf_10 (by decide) ?_
  obtain ⟨x2, ex2, h0⟩ := ob_out h0
  have kx2 := m_X8_of l D ca am M xs a1 5 x2 ex2 H.size
  refine w_callV0 K X wM_fstx kx2 hl.1 2 q1631 q1633 q47 q97 q1634 hv_X8_of ⟨⟨Nat.le_of_ble_eq_true rfl, Nat.le_of_ble_eq_true rfl⟩, rfl, rfl⟩ pl_modo rfl rfl rfl rfl (Nat.le_of_ble_eq_true rfl) dX8_readingOf_11 ⟨Nat.le_of_ble_eq_true rfl, Nat.le_of_ble_eq_true rfl⟩ rfl (fun H locs X => ?_)
  refine lv_iadd hx hb dX8_readingOf_14 ?_
  have h0 := Option.some.inj h0
  subst h0
  subst hQ
  exact w_iret K hr0 X wM_fstx hsz dX8_readingOf_15
-- X8_upright
def f_X8_upright (n : Nat) (M : RowS) (a1 : Int32) : Option Int64 :=
  ob (f_X8_columnOf n M a1) fun x1 =>
  ob (f_X8_of M a1 3) fun x2 =>
  some ((x1.toInt64 * x2.toInt64) / 1000)
abbrev rm_X8_upright : Room := { frames := 8, cells := 0, slots := 0, locals := 190 }
set_option maxRecDepth 100000 in
set_option maxHeartbeats 4000000 in
theorem m_X8_upright (l : Launch) (D : va_G) (ca : Nat → ClassId) (am : Nat → Nat) (n : Nat) (M : RowS) (xs : va_W) (a1 : Int32) (res : Int64) (h0 : f_X8_upright n M a1 = some res) (sz : Nat) : Met l yX8_upright (ws_ yX8_upright cX8_upright 2 (some .long)) rm_X8_upright (PCw D ca (wM am ca M ++ xs) sz [.ref (am 0), .int a1]) (QMw D (wM am ca M ++ xs) (wM am ca M ++ xs) sz (some (.long res))) 0 0 (AL (wM am ca M ++ xs) sz) := by
  refine met_of (by decide) (Nat.le_of_ble_eq_true rfl) (fun p e s m args below meth c K hr0 X hsz ls hl => ?_)
  have K : MC D ca p s m args meth c cX8_upright 2 RX8 := K
  have hx := K.1
  have hb := K.2.1
  have hl : lv_has ls 2 [(0, .ref (am 0)), (1, .int a1)] := hl
  generalize hQ : MQ below _ args s 0 0 _ = Q
  unfold f_X8_upright at h0
  suffices Z : ∀ (H : Heap) (locs : List Loc) (X : RW D (wM am ca M ++ xs) s.heap H locs), W p l e rm_X8_upright s m args below meth c H locs 0 0 Q (F0 m 0 ls []) from Z _ _ X
  intro H locs X
  refine lv_aload_n hx hb dX8_upright_0 rfl (lv_at hl 0 rfl) ?_
  refine lv_iload_n hx hb dX8_upright_1 rfl (lv_at hl 1 rfl) ?_
  obtain ⟨x1, ex1, h0⟩ := ob_out h0
  have kx1 := m_X8_columnOf l D ca am n M xs a1 x1 ex1 H.size
  refine w_callV0 K X wM_fstx kx1 hl.1 1 q1719 q1721 q61 q97 q1722 hv_X8_columnOf ⟨⟨Nat.le_of_ble_eq_true rfl, Nat.le_of_ble_eq_true rfl⟩, rfl, rfl⟩ pl_modo rfl rfl rfl rfl (Nat.le_of_ble_eq_true rfl) dX8_upright_2 ⟨Nat.le_of_ble_eq_true rfl, Nat.le_of_ble_eq_true rfl⟩ rfl (fun H locs X => ?_)
  refine lv_i2l hx hb dX8_upright_5 rfl ?_
  refine lv_aload_n hx hb dX8_upright_6 rfl (lv_at hl 0 rfl) ?_
  refine lv_iload_n hx hb dX8_upright_7 rfl (lv_at hl 1 rfl) ?_
  refine lv_iconst (v := 3) hx hb dX8_upright_8 (by decide) ?_
  obtain ⟨x2, ex2, h0⟩ := ob_out h0
  have kx2 := m_X8_of l D ca am M xs a1 3 x2 ex2 H.size
  refine w_callV0 K X wM_fstx kx2 hl.1 2 q1631 q1633 q47 q97 q1634 hv_X8_of ⟨⟨Nat.le_of_ble_eq_true rfl, Nat.le_of_ble_eq_true rfl⟩, rfl, rfl⟩ pl_modo rfl rfl rfl rfl (Nat.le_of_ble_eq_true rfl) dX8_upright_9 ⟨Nat.le_of_ble_eq_true rfl, Nat.le_of_ble_eq_true rfl⟩ rfl (fun H locs X => ?_)
  refine lv_i2l hx hb dX8_upright_12 rfl ?_
  refine lv_lmul hx hb dX8_upright_13 ?_
  refine lv_ldc2 hx hb K.2.2.2.1 (K.2.2.2.2.1 _ q1671) dX8_upright_14 ?_
  refine lv_ldiv hx hb dX8_upright_17 (by decide) ?_
  have h0 := Option.some.inj h0
  subst h0
  subst hQ
  exact w_lret K hr0 X wM_fstx hsz dX8_upright_18
-- X8_toldBy
def f_X8_toldBy (n : Nat) (M : RowS) (a1 : Int32) : Option Int32 :=
  ob (f_X8_of M a1 0) fun x1 =>
  ob (f_X8_upright n M a1) fun x2 =>
  ob (f_X8_levelOf n M x1) fun x3 =>
  ob (f_X8_meniscusOf M a1) fun x4 =>
  lt ((x2 - x3) - x4.toInt64) fun x5 =>
  if 0 ≤ (1 : Int32).toInt ∧ (1 : Int32).toInt < 102 then
    ob (f_X8_ofLeg M x1 0) fun x7 =>
    some ((((M.1 1 (1 : Int32).toNatClampNeg).toInt64) - ((x5 * x7.toInt64) / 1000)).toInt32)
  else none
abbrev rm_X8_toldBy : Room := { frames := 9, cells := 0, slots := 0, locals := 211 }
set_option maxRecDepth 100000 in
set_option maxHeartbeats 4000000 in
theorem m_X8_toldBy (l : Launch) (D : va_G) (ca : Nat → ClassId) (am : Nat → Nat) (n : Nat) (M : RowS) (xs : va_W) (a1 : Int32) (res : Int32) (h0 : f_X8_toldBy n M a1 = some res) (sz : Nat) : Met l yX8_toldBy (ws_ yX8_toldBy cX8_toldBy 5 (some .int)) rm_X8_toldBy (PCw D ca (wM am ca M ++ xs) sz [.ref (am 0), .int a1]) (QMw D (wM am ca M ++ xs) (wM am ca M ++ xs) sz (some (.int res))) 0 0 (AL (wM am ca M ++ xs) sz) := by
  refine met_of (by decide) (Nat.le_of_ble_eq_true rfl) (fun p e s m args below meth c K hr0 X hsz ls hl => ?_)
  have K : MC D ca p s m args meth c cX8_toldBy 5 RX8 := K
  have hx := K.1
  have hb := K.2.1
  have hl : lv_has ls 5 [(0, .ref (am 0)), (1, .int a1)] := hl
  generalize hQ : MQ below _ args s 0 0 _ = Q
  unfold f_X8_toldBy at h0
  suffices Z : ∀ (H : Heap) (locs : List Loc) (X : RW D (wM am ca M ++ xs) s.heap H locs), W p l e rm_X8_toldBy s m args below meth c H locs 0 0 Q (F0 m 0 ls []) from Z _ _ X
  intro H locs X
  refine lv_aload_n hx hb dX8_toldBy_0 rfl (lv_at hl 0 rfl) ?_
  refine lv_iload_n hx hb dX8_toldBy_1 rfl (lv_at hl 1 rfl) ?_
  refine lv_iconst (v := 0) hx hb dX8_toldBy_2 (by decide) ?_
  obtain ⟨x1, ex1, h0⟩ := ob_out h0
  have kx1 := m_X8_of l D ca am M xs a1 0 x1 ex1 H.size
  refine w_callV0 K X wM_fstx kx1 hl.1 2 q1631 q1633 q47 q97 q1634 hv_X8_of ⟨⟨Nat.le_of_ble_eq_true rfl, Nat.le_of_ble_eq_true rfl⟩, rfl, rfl⟩ pl_modo rfl rfl rfl rfl (Nat.le_of_ble_eq_true rfl) dX8_toldBy_3 ⟨Nat.le_of_ble_eq_true rfl, Nat.le_of_ble_eq_true rfl⟩ rfl (fun H locs X => ?_)
  refine lv_istore_n (lv' := [(2, .int x1), (0, .ref (am 0)), (1, .int a1)]) hx hb dX8_toldBy_6 rfl hl (by decide) rfl (fun ls hl => ?_)
  refine lv_aload_n hx hb dX8_toldBy_7 rfl (lv_at hl 1 rfl) ?_
  refine lv_iload_n hx hb dX8_toldBy_8 rfl (lv_at hl 2 rfl) ?_
  obtain ⟨x2, ex2, h0⟩ := ob_out h0
  have kx2 := m_X8_upright l D ca am n M xs a1 x2 ex2 H.size
  refine w_callV0 K X wM_fstx kx2 hl.1 1 q1735 q1737 q64 q97 q1738 hv_X8_upright ⟨⟨Nat.le_of_ble_eq_true rfl, Nat.le_of_ble_eq_true rfl⟩, rfl, rfl⟩ pl_modo rfl rfl rfl rfl (Nat.le_of_ble_eq_true rfl) dX8_toldBy_9 ⟨Nat.le_of_ble_eq_true rfl, Nat.le_of_ble_eq_true rfl⟩ rfl (fun H locs X => ?_)
  refine lv_aload_n hx hb dX8_toldBy_12 rfl (lv_at hl 1 rfl) ?_
  refine lv_iload_n hx hb dX8_toldBy_13 rfl (lv_at hl 0 rfl) ?_
  obtain ⟨x3, ex3, h0⟩ := ob_out h0
  have kx3 := m_X8_levelOf l D ca am n M xs x1 x3 ex3 H.size
  refine w_callV0 K X wM_fstx kx3 hl.1 1 q1623 q1625 q45 q97 q1626 hv_X8_levelOf ⟨⟨Nat.le_of_ble_eq_true rfl, Nat.le_of_ble_eq_true rfl⟩, rfl, rfl⟩ pl_modo rfl rfl rfl rfl (Nat.le_of_ble_eq_true rfl) dX8_toldBy_14 ⟨Nat.le_of_ble_eq_true rfl, Nat.le_of_ble_eq_true rfl⟩ rfl (fun H locs X => ?_)
  refine lv_lsub hx hb dX8_toldBy_17 ?_
  refine lv_aload_n hx hb dX8_toldBy_18 rfl (lv_at hl 1 rfl) ?_
  refine lv_iload_n hx hb dX8_toldBy_19 rfl (lv_at hl 2 rfl) ?_
  obtain ⟨x4, ex4, h0⟩ := ob_out h0
  have kx4 := m_X8_meniscusOf l D ca am M xs a1 x4 ex4 H.size
  refine w_callV0 K X wM_fstx kx4 hl.1 1 q1667 q1669 q55 q97 q1670 hv_X8_meniscusOf ⟨⟨Nat.le_of_ble_eq_true rfl, Nat.le_of_ble_eq_true rfl⟩, rfl, rfl⟩ pl_modo rfl rfl rfl rfl (Nat.le_of_ble_eq_true rfl) dX8_toldBy_20 ⟨Nat.le_of_ble_eq_true rfl, Nat.le_of_ble_eq_true rfl⟩ rfl (fun H locs X => ?_)
  refine lv_i2l hx hb dX8_toldBy_23 rfl ?_
  refine lv_lsub hx hb dX8_toldBy_24 ?_
  obtain ⟨x5, ex5, h0⟩ := lt_out h0
  refine w_long ex5 ?_
  refine lv_lstore_n (lv' := [(3, .long x5), (2, .int x1), (0, .ref (am 0)), (1, .int a1)]) hx hb dX8_toldBy_25 rfl hl (by decide) rfl (fun ls hl => ?_)
  refine lv_aload_n hx hb dX8_toldBy_26 rfl (lv_at hl 2 rfl) ?_
  refine g_modr K X 1 (by decide) (fun _ _ => rfl) q1400 dX8_toldBy_27 ?_
  refine lv_iconst (v := 1) hx hb dX8_toldBy_30 (by decide) ?_
  obtain ⟨c6, h0⟩ := if_o h0
  refine a_modi K X 1 1 102 rfl rfl (inb_vp c6) dX8_toldBy_31 ?_
  refine lv_i2l hx hb dX8_toldBy_32 rfl ?_
  refine lv_lload_n hx hb dX8_toldBy_33 rfl (lv_at hl 0 rfl) ?_
  refine lv_aload_n hx hb dX8_toldBy_34 rfl (lv_at hl 2 rfl) ?_
  refine lv_iload_n hx hb dX8_toldBy_35 rfl (lv_at hl 1 rfl) ?_
  refine lv_iconst (v := 0) hx hb dX8_toldBy_36 (by decide) ?_
  obtain ⟨x7, ex7, h0⟩ := ob_out h0
  have kx7 := m_X8_ofLeg l D ca am M xs x1 0 x7 ex7 H.size
  refine w_callV0 K X wM_fstx kx7 hl.1 2 q1627 q1629 q46 q97 q1630 hv_X8_ofLeg ⟨⟨Nat.le_of_ble_eq_true rfl, Nat.le_of_ble_eq_true rfl⟩, rfl, rfl⟩ pl_modo rfl rfl rfl rfl (Nat.le_of_ble_eq_true rfl) dX8_toldBy_37 ⟨Nat.le_of_ble_eq_true rfl, Nat.le_of_ble_eq_true rfl⟩ rfl (fun H locs X => ?_)
  refine lv_i2l hx hb dX8_toldBy_40 rfl ?_
  refine lv_lmul hx hb dX8_toldBy_41 ?_
  refine lv_ldc2 hx hb K.2.2.2.1 (K.2.2.2.2.1 _ q1671) dX8_toldBy_42 ?_
  refine lv_ldiv hx hb dX8_toldBy_45 (by decide) ?_
  refine lv_lsub hx hb dX8_toldBy_46 ?_
  refine lv_l2i hx hb dX8_toldBy_47 rfl ?_
  have h0 := Option.some.inj h0
  subst h0
  subst hQ
  exact w_iret K hr0 X wM_fstx hsz dX8_toldBy_48
-- X8_differenceOf
def f_X8_differenceOf (n : Nat) (M : RowS) (a1 : Int32) (a2 : Int32) : Option Int32 :=
  ob (f_X8_of M a1 0) fun x1 =>
  ob (f_X8_of M a2 0) fun x2 =>
  if x1 = x2 then
    ob (f_X8_upright n M a2) fun x4 =>
    ob (f_X8_upright n M a1) fun x5 =>
    ob (f_X8_meniscusOf M a2) fun x6 =>
    ob (f_X8_meniscusOf M a1) fun x7 =>
    lt (((x4 - x5) - x6.toInt64) + x7.toInt64) fun x8 =>
    ob (f_X8_of M a1 0) fun x9 =>
    ob (f_X8_ofLeg M x9 0) fun x10 =>
    some (((x8 * x10.toInt64) / 1000).toInt32)
  else
    ob (f_X8_toldBy n M a1) fun x11 =>
    ob (f_X8_toldBy n M a2) fun x12 =>
    some (x11 - x12)
abbrev rm_X8_differenceOf : Room := { frames := 10, cells := 0, slots := 0, locals := 235 }
set_option maxRecDepth 100000 in
set_option maxHeartbeats 4000000 in
theorem m_X8_differenceOf (l : Launch) (D : va_G) (ca : Nat → ClassId) (am : Nat → Nat) (n : Nat) (M : RowS) (xs : va_W) (a1 : Int32) (a2 : Int32) (res : Int32) (h0 : f_X8_differenceOf n M a1 a2 = some res) (sz : Nat) : Met l yX8_differenceOf (ws_ yX8_differenceOf cX8_differenceOf 5 (some .int)) rm_X8_differenceOf (PCw D ca (wM am ca M ++ xs) sz [.ref (am 0), .int a1, .int a2]) (QMw D (wM am ca M ++ xs) (wM am ca M ++ xs) sz (some (.int res))) 0 0 (AL (wM am ca M ++ xs) sz) := by
  refine met_of (by decide) (Nat.le_of_ble_eq_true rfl) (fun p e s m args below meth c K hr0 X hsz ls hl => ?_)
  have K : MC D ca p s m args meth c cX8_differenceOf 5 RX8 := K
  have hx := K.1
  have hb := K.2.1
  have hl : lv_has ls 5 [(0, .ref (am 0)), (1, .int a1), (2, .int a2)] := hl
  generalize hQ : MQ below _ args s 0 0 _ = Q
  unfold f_X8_differenceOf at h0
  suffices Z : ∀ (H : Heap) (locs : List Loc) (X : RW D (wM am ca M ++ xs) s.heap H locs), W p l e rm_X8_differenceOf s m args below meth c H locs 0 0 Q (F0 m 0 ls []) from Z _ _ X
  intro H locs X
  refine lv_aload_n hx hb dX8_differenceOf_0 rfl (lv_at hl 0 rfl) ?_
  refine lv_iload_n hx hb dX8_differenceOf_1 rfl (lv_at hl 1 rfl) ?_
  refine lv_iconst (v := 0) hx hb dX8_differenceOf_2 (by decide) ?_
  obtain ⟨x1, ex1, h0⟩ := ob_out h0
  have kx1 := m_X8_of l D ca am M xs a1 0 x1 ex1 H.size
  refine w_callV0 K X wM_fstx kx1 hl.1 2 q1631 q1633 q47 q97 q1634 hv_X8_of ⟨⟨Nat.le_of_ble_eq_true rfl, Nat.le_of_ble_eq_true rfl⟩, rfl, rfl⟩ pl_modo rfl rfl rfl rfl (Nat.le_of_ble_eq_true rfl) dX8_differenceOf_3 ⟨Nat.le_of_ble_eq_true rfl, Nat.le_of_ble_eq_true rfl⟩ rfl (fun H locs X => ?_)
  refine lv_aload_n hx hb dX8_differenceOf_6 rfl (lv_at hl 0 rfl) ?_
  refine lv_iload_n hx hb dX8_differenceOf_7 rfl (lv_at hl 2 rfl) ?_
  refine lv_iconst (v := 0) hx hb dX8_differenceOf_8 (by decide) ?_
  obtain ⟨x2, ex2, h0⟩ := ob_out h0
  have kx2 := m_X8_of l D ca am M xs a2 0 x2 ex2 H.size
  refine w_callV0 K X wM_fstx kx2 hl.1 2 q1631 q1633 q47 q97 q1634 hv_X8_of ⟨⟨Nat.le_of_ble_eq_true rfl, Nat.le_of_ble_eq_true rfl⟩, rfl, rfl⟩ pl_modo rfl rfl rfl rfl (Nat.le_of_ble_eq_true rfl) dX8_differenceOf_9 ⟨Nat.le_of_ble_eq_true rfl, Nat.le_of_ble_eq_true rfl⟩ rfl (fun H locs X => ?_)
  refine lv_icmp_eq (tgt := 27) hx hb dX8_differenceOf_12 (by decide) (fun c3 => ?_) (fun c3 => ?_)
  · have h0 := if_t c3 h0
    refine lv_aload_n hx hb dX8_differenceOf_27 rfl (lv_at hl 0 rfl) ?_
    refine lv_iload_n hx hb dX8_differenceOf_28 rfl (lv_at hl 2 rfl) ?_
    obtain ⟨x4, ex4, h0⟩ := ob_out h0
    have kx4 := m_X8_upright l D ca am n M xs a2 x4 ex4 H.size
    refine w_callV0 K X wM_fstx kx4 hl.1 1 q1735 q1737 q64 q97 q1738 hv_X8_upright ⟨⟨Nat.le_of_ble_eq_true rfl, Nat.le_of_ble_eq_true rfl⟩, rfl, rfl⟩ pl_modo rfl rfl rfl rfl (Nat.le_of_ble_eq_true rfl) dX8_differenceOf_29 ⟨Nat.le_of_ble_eq_true rfl, Nat.le_of_ble_eq_true rfl⟩ rfl (fun H locs X => ?_)
    refine lv_aload_n hx hb dX8_differenceOf_32 rfl (lv_at hl 0 rfl) ?_
    refine lv_iload_n hx hb dX8_differenceOf_33 rfl (lv_at hl 1 rfl) ?_
    obtain ⟨x5, ex5, h0⟩ := ob_out h0
    have kx5 := m_X8_upright l D ca am n M xs a1 x5 ex5 H.size
    refine w_callV0 K X wM_fstx kx5 hl.1 1 q1735 q1737 q64 q97 q1738 hv_X8_upright ⟨⟨Nat.le_of_ble_eq_true rfl, Nat.le_of_ble_eq_true rfl⟩, rfl, rfl⟩ pl_modo rfl rfl rfl rfl (Nat.le_of_ble_eq_true rfl) dX8_differenceOf_34 ⟨Nat.le_of_ble_eq_true rfl, Nat.le_of_ble_eq_true rfl⟩ rfl (fun H locs X => ?_)
    refine lv_lsub hx hb dX8_differenceOf_37 ?_
    refine lv_aload_n hx hb dX8_differenceOf_38 rfl (lv_at hl 0 rfl) ?_
    refine lv_iload_n hx hb dX8_differenceOf_39 rfl (lv_at hl 2 rfl) ?_
    obtain ⟨x6, ex6, h0⟩ := ob_out h0
    have kx6 := m_X8_meniscusOf l D ca am M xs a2 x6 ex6 H.size
    refine w_callV0 K X wM_fstx kx6 hl.1 1 q1667 q1669 q55 q97 q1670 hv_X8_meniscusOf ⟨⟨Nat.le_of_ble_eq_true rfl, Nat.le_of_ble_eq_true rfl⟩, rfl, rfl⟩ pl_modo rfl rfl rfl rfl (Nat.le_of_ble_eq_true rfl) dX8_differenceOf_40 ⟨Nat.le_of_ble_eq_true rfl, Nat.le_of_ble_eq_true rfl⟩ rfl (fun H locs X => ?_)
    refine lv_i2l hx hb dX8_differenceOf_43 rfl ?_
    refine lv_lsub hx hb dX8_differenceOf_44 ?_
    refine lv_aload_n hx hb dX8_differenceOf_45 rfl (lv_at hl 0 rfl) ?_
    refine lv_iload_n hx hb dX8_differenceOf_46 rfl (lv_at hl 1 rfl) ?_
    obtain ⟨x7, ex7, h0⟩ := ob_out h0
    have kx7 := m_X8_meniscusOf l D ca am M xs a1 x7 ex7 H.size
    refine w_callV0 K X wM_fstx kx7 hl.1 1 q1667 q1669 q55 q97 q1670 hv_X8_meniscusOf ⟨⟨Nat.le_of_ble_eq_true rfl, Nat.le_of_ble_eq_true rfl⟩, rfl, rfl⟩ pl_modo rfl rfl rfl rfl (Nat.le_of_ble_eq_true rfl) dX8_differenceOf_47 ⟨Nat.le_of_ble_eq_true rfl, Nat.le_of_ble_eq_true rfl⟩ rfl (fun H locs X => ?_)
    refine lv_i2l hx hb dX8_differenceOf_50 rfl ?_
    refine lv_ladd hx hb dX8_differenceOf_51 ?_
    obtain ⟨x8, ex8, h0⟩ := lt_out h0
    refine w_long ex8 ?_
    refine lv_lstore_n (lv' := [(3, .long x8), (0, .ref (am 0)), (1, .int a1), (2, .int a2)]) hx hb dX8_differenceOf_52 rfl hl (by decide) rfl (fun ls hl => ?_)
    refine lv_lload_n hx hb dX8_differenceOf_53 rfl (lv_at hl 0 rfl) ?_
    refine lv_aload_n hx hb dX8_differenceOf_54 rfl (lv_at hl 1 rfl) ?_
    refine lv_aload_n hx hb dX8_differenceOf_55 rfl (lv_at hl 1 rfl) ?_
    refine lv_iload_n hx hb dX8_differenceOf_56 rfl (lv_at hl 2 rfl) ?_
    refine lv_iconst (v := 0) hx hb dX8_differenceOf_57 (by decide) ?_
    obtain ⟨x9, ex9, h0⟩ := ob_out h0
    have kx9 := m_X8_of l D ca am M xs a1 0 x9 ex9 H.size
    refine w_callV0 K X wM_fstx kx9 hl.1 2 q1631 q1633 q47 q97 q1634 hv_X8_of ⟨⟨Nat.le_of_ble_eq_true rfl, Nat.le_of_ble_eq_true rfl⟩, rfl, rfl⟩ pl_modo rfl rfl rfl rfl (Nat.le_of_ble_eq_true rfl) dX8_differenceOf_58 ⟨Nat.le_of_ble_eq_true rfl, Nat.le_of_ble_eq_true rfl⟩ rfl (fun H locs X => ?_)
    refine lv_iconst (v := 0) hx hb dX8_differenceOf_61 (by decide) ?_
    obtain ⟨x10, ex10, h0⟩ := ob_out h0
    have kx10 := m_X8_ofLeg l D ca am M xs x9 0 x10 ex10 H.size
    refine w_callV0 K X wM_fstx kx10 hl.1 2 q1627 q1629 q46 q97 q1630 hv_X8_ofLeg ⟨⟨Nat.le_of_ble_eq_true rfl, Nat.le_of_ble_eq_true rfl⟩, rfl, rfl⟩ pl_modo rfl rfl rfl rfl (Nat.le_of_ble_eq_true rfl) dX8_differenceOf_62 ⟨Nat.le_of_ble_eq_true rfl, Nat.le_of_ble_eq_true rfl⟩ rfl (fun H locs X => ?_)
    refine lv_i2l hx hb dX8_differenceOf_65 rfl ?_
    refine lv_lmul hx hb dX8_differenceOf_66 ?_
    refine lv_ldc2 hx hb K.2.2.2.1 (K.2.2.2.2.1 _ q1671) dX8_differenceOf_67 ?_
    refine lv_ldiv hx hb dX8_differenceOf_70 (by decide) ?_
    refine lv_l2i hx hb dX8_differenceOf_71 rfl ?_
    have h0 := Option.some.inj h0
    subst h0
    subst hQ
    exact w_iret K hr0 X wM_fstx hsz dX8_differenceOf_72
  · have h0 := if_f c3 h0
    refine lv_aload_n hx hb dX8_differenceOf_15 rfl (lv_at hl 0 rfl) ?_
    refine lv_iload_n hx hb dX8_differenceOf_16 rfl (lv_at hl 1 rfl) ?_
    obtain ⟨x11, ex11, h0⟩ := ob_out h0
    have kx11 := m_X8_toldBy l D ca am n M xs a1 x11 ex11 H.size
    refine w_callV0 K X wM_fstx kx11 hl.1 1 q1731 q1733 q63 q97 q1734 hv_X8_toldBy ⟨⟨Nat.le_of_ble_eq_true rfl, Nat.le_of_ble_eq_true rfl⟩, rfl, rfl⟩ pl_modo rfl rfl rfl rfl (Nat.le_of_ble_eq_true rfl) dX8_differenceOf_17 ⟨Nat.le_of_ble_eq_true rfl, Nat.le_of_ble_eq_true rfl⟩ rfl (fun H locs X => ?_)
    refine lv_aload_n hx hb dX8_differenceOf_20 rfl (lv_at hl 0 rfl) ?_
    refine lv_iload_n hx hb dX8_differenceOf_21 rfl (lv_at hl 2 rfl) ?_
    obtain ⟨x12, ex12, h0⟩ := ob_out h0
    have kx12 := m_X8_toldBy l D ca am n M xs a2 x12 ex12 H.size
    refine w_callV0 K X wM_fstx kx12 hl.1 1 q1731 q1733 q63 q97 q1734 hv_X8_toldBy ⟨⟨Nat.le_of_ble_eq_true rfl, Nat.le_of_ble_eq_true rfl⟩, rfl, rfl⟩ pl_modo rfl rfl rfl rfl (Nat.le_of_ble_eq_true rfl) dX8_differenceOf_22 ⟨Nat.le_of_ble_eq_true rfl, Nat.le_of_ble_eq_true rfl⟩ rfl (fun H locs X => ?_)
    refine lv_isub hx hb dX8_differenceOf_25 ?_
    have h0 := Option.some.inj h0
    subst h0
    subst hQ
    exact w_iret K hr0 X wM_fstx hsz dX8_differenceOf_26
-- X8_inLeg
def b_X8_inLeg_38  (y38_l2 : Int32) : Option Int32 :=
  some y38_l2
def b_X8_inLeg_30  (y30_l3 : Int32) (y30_s0 : Int32) (y30_s1 : Int32) : Option ((Int32 × Int32) ⊕ Int32) :=
  lt (y30_s0 + y30_s1) fun x5 =>
  lt (y30_l3 + 1) fun x6 =>
  some (.inl (x5, x6))
def l_X8_inLeg_4 (M : RowS) (a1 : Int32) (z4_2 : Int32) (z4_3 : Int32) : Option ((Int32 × Int32) ⊕ Int32) :=
  if 0 ≤ (2 : Int32).toInt ∧ (2 : Int32).toInt < 102 then
    if (M.1 1 (2 : Int32).toNatClampNeg) ≤ z4_3 then
      some (.inr z4_2)
    else
      ob (f_X8_of M z4_3 0) fun x3 =>
      if x3 = a1 then
        b_X8_inLeg_30 z4_3 z4_2 1
      else
        b_X8_inLeg_30 z4_3 z4_2 0
  else none
def f_X8_inLeg (n : Nat) (M : RowS) (a1 : Int32) : Option Int32 :=
  ob (wloop (fun t => l_X8_inLeg_4 M a1 t.1 t.2) n (0, 0)) (fun t => b_X8_inLeg_38 t)
abbrev rm_X8_inLeg : Room := { frames := 2, cells := 0, slots := 0, locals := 43 }
set_option maxRecDepth 100000 in
set_option maxHeartbeats 4000000 in
theorem m_X8_inLeg (l : Launch) (D : va_G) (ca : Nat → ClassId) (am : Nat → Nat) (n : Nat) (M : RowS) (xs : va_W) (a1 : Int32) (res : Int32) (h0 : f_X8_inLeg n M a1 = some res) (sz : Nat) : Met l yX8_inLeg (ws_ yX8_inLeg cX8_inLeg 4 (some .int)) rm_X8_inLeg (PCw D ca (wM am ca M ++ xs) sz [.ref (am 0), .int a1]) (QMw D (wM am ca M ++ xs) (wM am ca M ++ xs) sz (some (.int res))) 0 0 (AL (wM am ca M ++ xs) sz) := by
  refine met_of (by decide) (Nat.le_of_ble_eq_true rfl) (fun p e s m args below meth c K hr0 X hsz ls hl => ?_)
  have K : MC D ca p s m args meth c cX8_inLeg 4 RX8 := K
  have hx := K.1
  have hb := K.2.1
  have hl : lv_has ls 4 [(0, .ref (am 0)), (1, .int a1)] := hl
  generalize hQ : MQ below _ args s 0 0 _ = Q
  unfold f_X8_inLeg at h0
  suffices Z : ∀ (H : Heap) (locs : List Loc) (X : RW D (wM am ca M ++ xs) s.heap H locs), W p l e rm_X8_inLeg s m args below meth c H locs 0 0 Q (F0 m 0 ls []) from Z _ _ X
  intro H locs X
  have J38 : ∀ (y38_l2 : Int32) (H : Heap) (locs : List Loc) (X : RW D (wM am ca M ++ xs) s.heap H locs) (ls : Array Slot) (hl : lv_has ls 4 [(2, .int y38_l2)]) (h0 : b_X8_inLeg_38 y38_l2 = some res), W p l e rm_X8_inLeg s m args below meth c H locs 0 0 Q (F0 m 38 ls []) := by
    intro y38_l2 H locs X ls hl h0
    unfold b_X8_inLeg_38 at h0
    refine lv_iload_n hx hb dX8_inLeg_38 rfl (lv_at hl 0 rfl) ?_
    have h0 := Option.some.inj h0
    subst h0
    subst hQ
    exact w_iret K hr0 X wM_fstx hsz dX8_inLeg_39
  refine lv_iconst (v := 0) hx hb dX8_inLeg_0 (by decide) ?_
  refine lv_istore_n (lv' := [(2, .int 0), (0, .ref (am 0)), (1, .int a1)]) hx hb dX8_inLeg_1 rfl hl (by decide) rfl (fun ls hl => ?_)
  refine lv_iconst (v := 0) hx hb dX8_inLeg_2 (by decide) ?_
  refine lv_istore_n (lv' := [(3, .int 0), (2, .int 0), (0, .ref (am 0)), (1, .int a1)]) hx hb dX8_inLeg_3 rfl hl (by decide) rfl (fun ls hl => ?_)
  obtain ⟨e_1, he1, h0⟩ := ob_out h0
  have K4 : ∀ (k : Nat) (z4_2 : Int32) (z4_3 : Int32) (H : Heap) (locs : List Loc) (X : RW D (wM am ca M ++ xs) s.heap H locs) (ls : Array Slot) (hl : lv_has ls 4 [(0, .ref (am 0)), (1, .int a1), (2, .int z4_2), (3, .int z4_3)]) (hw : wloop (fun t => l_X8_inLeg_4 M a1 t.1 t.2) k (z4_2, z4_3) = some e_1), W p l e rm_X8_inLeg s m args below meth c H locs 0 0 Q (F0 m 4 ls []) := by
    intro k
    induction k with
    | zero => intro z4_2 z4_3 H locs X ls hl hw; exact (wloop_0 hw).elim
    | succ k ih1 =>
      intro z4_2 z4_3 H locs X ls hl hw
      obtain ⟨x_1, h1, hx1⟩ := wloop_out hw
      have h1 : l_X8_inLeg_4 M a1 z4_2 z4_3 = some x_1 := h1
      unfold l_X8_inLeg_4 at h1
      have J30 : ∀ (y30_l3 : Int32) (y30_s0 : Int32) (y30_s1 : Int32) (H : Heap) (locs : List Loc) (X : RW D (wM am ca M ++ xs) s.heap H locs) (ls : Array Slot) (hl : lv_has ls 4 [(0, .ref (am 0)), (1, .int a1), (3, .int y30_l3)]) (h1 : b_X8_inLeg_30 y30_l3 y30_s0 y30_s1 = some x_1), W p l e rm_X8_inLeg s m args below meth c H locs 0 0 Q (F0 m 30 ls [.int y30_s1, .int y30_s0]) := by
        intro y30_l3 y30_s0 y30_s1 H locs X ls hl h1
        unfold b_X8_inLeg_30 at h1
        refine lv_iadd hx hb dX8_inLeg_30 ?_
        obtain ⟨x5, ex5, h1⟩ := lt_out h1
        refine w_int ex5 ?_
        refine lv_istore_n (lv' := [(2, .int x5), (0, .ref (am 0)), (1, .int a1), (3, .int y30_l3)]) hx hb dX8_inLeg_31 rfl hl (by decide) rfl (fun ls hl => ?_)
        obtain ⟨x6, ex6, h1⟩ := lt_out h1
        refine lv_iinc (v := x6) (lv' := [(3, .int x6), (2, .int x5), (0, .ref (am 0)), (1, .int a1)]) hx hb dX8_inLeg_32 hl (k := 3) rfl (by rw [ex6]; rfl) (by decide) rfl (fun ls hl => ?_)
        refine lv_goto (tgt := 4) hx hb dX8_inLeg_35 (by decide) ?_
        exact ih1 x5 x6 H locs X ls (lv_sub hl [2, 3, 1, 0] rfl) (wl_l h1 hx1)
      refine lv_iload_n hx hb dX8_inLeg_4 rfl (lv_at hl 3 rfl) ?_
      refine lv_aload_n hx hb dX8_inLeg_5 rfl (lv_at hl 0 rfl) ?_
      refine g_modr K X 1 (by decide) (fun _ _ => rfl) q1400 dX8_inLeg_6 ?_
      refine lv_iconst (v := 2) hx hb dX8_inLeg_9 (by decide) ?_
      obtain ⟨c1, h1⟩ := if_o h1
      refine a_modi K X 1 1 102 rfl rfl (inb_vp c1) dX8_inLeg_10 ?_
      refine lv_icmp_ge (tgt := 38) hx hb dX8_inLeg_11 (by decide) (fun c2 => ?_) (fun c2 => ?_)
      · have h1 := if_t c2 h1
        have q1 := wl_r h1 hx1
        exact J38 z4_2 H locs X ls (lv_sub hl [2] rfl) (by rw [q1] at h0; exact h0)
      · have h1 := if_f c2 h1
        refine lv_iload_n hx hb dX8_inLeg_14 rfl (lv_at hl 2 rfl) ?_
        refine lv_aload_n hx hb dX8_inLeg_15 rfl (lv_at hl 0 rfl) ?_
        refine lv_iload_n hx hb dX8_inLeg_16 rfl (lv_at hl 3 rfl) ?_
        refine lv_iconst (v := 0) hx hb dX8_inLeg_17 (by decide) ?_
        obtain ⟨x3, ex3, h1⟩ := ob_out h1
        have kx3 := m_X8_of l D ca am M xs z4_3 0 x3 ex3 H.size
        refine w_callV0 K X wM_fstx kx3 hl.1 2 q1631 q1633 q47 q97 q1634 hv_X8_of ⟨⟨Nat.le_of_ble_eq_true rfl, Nat.le_of_ble_eq_true rfl⟩, rfl, rfl⟩ pl_modo rfl rfl rfl rfl (Nat.le_of_ble_eq_true rfl) dX8_inLeg_18 ⟨Nat.le_of_ble_eq_true rfl, Nat.le_of_ble_eq_true rfl⟩ rfl (fun H locs X => ?_)
        refine lv_iload_n hx hb dX8_inLeg_21 rfl (lv_at hl 1 rfl) ?_
        refine lv_icmp_ne (tgt := 29) hx hb dX8_inLeg_22 (by decide) (fun c4 => ?_) (fun c4 => ?_)
        · have h1 := if_f c4 h1
          refine lv_iconst (v := 0) hx hb dX8_inLeg_29 (by decide) ?_
          exact J30 z4_3 z4_2 0 H locs X ls (lv_sub hl [0, 1, 3] rfl) h1
        · have h1 := if_t c4 h1
          refine lv_iconst (v := 1) hx hb dX8_inLeg_25 (by decide) ?_
          refine lv_goto (tgt := 30) hx hb dX8_inLeg_26 (by decide) ?_
          exact J30 z4_3 z4_2 1 H locs X ls (lv_sub hl [0, 1, 3] rfl) h1
  exact K4 n 0 0 H locs X ls (lv_sub hl [2, 3, 1, 0] rfl) he1
-- X8_size
def f_X8_size (n : Nat) (M : RowS) (a1 : Int32) : Option (Int32 × RowS) :=
  lt (si M 0 0 0) fun Mv1 =>
  lt (f_X8_in a1.toInt64 0 7) fun x2 =>
  lt (f_X8_fails Mv1 (b2i x2) 1) fun x3 =>
  lt (x3.2) fun Mv4 =>
  if x3.1 = true then
    some (0, Mv4)
  else
    if a1 = 0 then
      if 0 ≤ (0 : Int32).toInt ∧ (0 : Int32).toInt < 102 then
        some ((Mv4.1 1 (0 : Int32).toNatClampNeg), Mv4)
      else none
    else if a1 = 1 then
      if 0 ≤ (1 : Int32).toInt ∧ (1 : Int32).toInt < 102 then
        some ((Mv4.1 1 (1 : Int32).toNatClampNeg), Mv4)
      else none
    else if a1 = 2 then
      if 0 ≤ (2 : Int32).toInt ∧ (2 : Int32).toInt < 102 then
        some ((Mv4.1 1 (2 : Int32).toNatClampNeg), Mv4)
      else none
    else if a1 = 3 then
      ob (f_X8_many n Mv4 0) fun x13 =>
      some (x13, Mv4)
    else if a1 = 4 then
      ob (f_X8_many n Mv4 1) fun x15 =>
      some (x15, Mv4)
    else if a1 = 5 then
      ob (f_X8_many n Mv4 2) fun x17 =>
      some (x17, Mv4)
    else ob (f_X8_inLeg n Mv4 (a1 - 6)) fun x18 =>
    some (x18, Mv4)
abbrev rm_X8_size : Room := { frames := 3, cells := 0, slots := 0, locals := 66 }
set_option maxRecDepth 100000 in
set_option maxHeartbeats 4000000 in
theorem m_X8_size (l : Launch) (D : va_G) (ca : Nat → ClassId) (am : Nat → Nat) (n : Nat) (M : RowS) (xs : va_W) (a1 : Int32) (res : Int32) (M' : RowS) (h0 : f_X8_size n M a1 = some (res, M')) (sz : Nat) : Met l yX8_size (ws_ yX8_size cX8_size 2 (some .int)) rm_X8_size (PCw D ca (wM am ca M ++ xs) sz [.ref (am 0), .int a1]) (QMw D (wM am ca M ++ xs) (wM am ca (M') ++ xs) sz (some (.int res))) 0 0 (AL (wM am ca M ++ xs) sz) := by
  refine met_of (by decide) (Nat.le_of_ble_eq_true rfl) (fun p e s m args below meth c K hr0 X hsz ls hl => ?_)
  have K : MC D ca p s m args meth c cX8_size 2 RX8 := K
  have hx := K.1
  have hb := K.2.1
  have hl : lv_has ls 2 [(0, .ref (am 0)), (1, .int a1)] := hl
  generalize hQ : MQ below _ args s 0 0 _ = Q
  unfold f_X8_size at h0
  suffices Z : ∀ (H : Heap) (locs : List Loc) (X : RW D (wM am ca M ++ xs) s.heap H locs), W p l e rm_X8_size s m args below meth c H locs 0 0 Q (F0 m 0 ls []) from Z _ _ X
  intro H locs X
  refine lv_aload_n hx hb dX8_size_0 rfl (lv_at hl 0 rfl) ?_
  refine lv_iconst (v := 0) hx hb dX8_size_1 (by decide) ?_
  obtain ⟨Mv1, eMv1, h0⟩ := lt_out h0
  refine p_modi (ty := .int) K X 0 (by decide) (fun _ _ => rfl) (by decide +kernel) ⟨rfl, rfl⟩ eMv1 q1399 dX8_size_2 (fun H locs X => ?_)
  refine lv_aload_n hx hb dX8_size_5 rfl (lv_at hl 0 rfl) ?_
  refine lv_iload_n hx hb dX8_size_6 rfl (lv_at hl 1 rfl) ?_
  refine lv_i2l hx hb dX8_size_7 rfl ?_
  refine lv_lconst (v := 0) hx hb dX8_size_8 (by decide) ?_
  refine lv_ldc2 hx hb K.2.2.2.1 (K.2.2.2.2.1 _ q1680) dX8_size_9 ?_
  obtain ⟨x2, ex2, h0⟩ := lt_out h0
  have kx2 := m_X8_in l D ca (wM am ca Mv1 ++ xs) a1.toInt64 0 7 x2 ex2.symm H.size
  refine w_callS0 K X wM_fstx kx2 hl.1 3 q1504 q1505 q97 q1506 hs_X8_in ⟨⟨Nat.le_of_ble_eq_true rfl, Nat.le_of_ble_eq_true rfl⟩, rfl, rfl⟩ rfl rfl (Nat.le_of_ble_eq_true rfl) dX8_size_12 ⟨Nat.le_of_ble_eq_true rfl, Nat.le_of_ble_eq_true rfl⟩ rfl (fun H locs X => ?_)
  refine lv_iconst (v := 1) hx hb dX8_size_15 (by decide) ?_
  obtain ⟨x3, ex3, h0⟩ := lt_out h0
  obtain ⟨Mv4, eMv4, h0⟩ := lt_out h0
  have kx3 := m_X8_fails l D ca am Mv1 xs (b2i x2) 1 x3.1 x3.2 ex3.symm H.size
  rw [← eMv4] at kx3
  refine w_callV0 K X wM_fstx kx3 hl.1 2 q1507 q1509 q22 q97 q1510 hv_X8_fails ⟨⟨Nat.le_of_ble_eq_true rfl, Nat.le_of_ble_eq_true rfl⟩, rfl, rfl⟩ pl_modo rfl rfl rfl rfl (Nat.le_of_ble_eq_true rfl) dX8_size_16 ⟨Nat.le_of_ble_eq_true rfl, Nat.le_of_ble_eq_true rfl⟩ rfl (fun H locs X => ?_)
  refine w_zeq (tgt := 24) K dX8_size_19 (by decide) (fun c5 => ?_) (fun c5 => ?_)
  · have h0 := if_f c5 h0
    refine lv_iload_n hx hb dX8_size_24 rfl (lv_at hl 1 rfl) ?_
    by_cases c6 : a1 = 0
    · have h0 := if_t c6 h0
      refine lv_tableIn (off := 39) (tgt := 64) hx hb dX8_size_25 (by rw [c6]; decide) (by rw [c6]; decide) (by rw [c6]; decide) (by decide) ?_
      refine lv_aload_n hx hb dX8_size_64 rfl (lv_at hl 0 rfl) ?_
      refine g_modr K X 1 (by decide) (fun _ _ => rfl) q1400 dX8_size_65 ?_
      refine lv_iconst (v := 0) hx hb dX8_size_68 (by decide) ?_
      obtain ⟨c7, h0⟩ := if_o h0
      refine a_modi K X 1 1 102 rfl rfl (inb_vp c7) dX8_size_69 ?_
      have h0 := Option.some.inj h0
      obtain ⟨q_0, q_1⟩ := Prod.mk.inj h0
      subst q_0
      subst q_1
      subst hQ
      exact w_iret K hr0 X wM_fstx hsz dX8_size_70
    have h0 := if_f c6 h0
    by_cases c8 : a1 = 1
    · have h0 := if_t c8 h0
      refine lv_tableIn (off := 46) (tgt := 71) hx hb dX8_size_25 (by rw [c8]; decide) (by rw [c8]; decide) (by rw [c8]; decide) (by decide) ?_
      refine lv_aload_n hx hb dX8_size_71 rfl (lv_at hl 0 rfl) ?_
      refine g_modr K X 1 (by decide) (fun _ _ => rfl) q1400 dX8_size_72 ?_
      refine lv_iconst (v := 1) hx hb dX8_size_75 (by decide) ?_
      obtain ⟨c9, h0⟩ := if_o h0
      refine a_modi K X 1 1 102 rfl rfl (inb_vp c9) dX8_size_76 ?_
      have h0 := Option.some.inj h0
      obtain ⟨q_0, q_1⟩ := Prod.mk.inj h0
      subst q_0
      subst q_1
      subst hQ
      exact w_iret K hr0 X wM_fstx hsz dX8_size_77
    have h0 := if_f c8 h0
    by_cases c10 : a1 = 2
    · have h0 := if_t c10 h0
      refine lv_tableIn (off := 53) (tgt := 78) hx hb dX8_size_25 (by rw [c10]; decide) (by rw [c10]; decide) (by rw [c10]; decide) (by decide) ?_
      refine lv_aload_n hx hb dX8_size_78 rfl (lv_at hl 0 rfl) ?_
      refine g_modr K X 1 (by decide) (fun _ _ => rfl) q1400 dX8_size_79 ?_
      refine lv_iconst (v := 2) hx hb dX8_size_82 (by decide) ?_
      obtain ⟨c11, h0⟩ := if_o h0
      refine a_modi K X 1 1 102 rfl rfl (inb_vp c11) dX8_size_83 ?_
      have h0 := Option.some.inj h0
      obtain ⟨q_0, q_1⟩ := Prod.mk.inj h0
      subst q_0
      subst q_1
      subst hQ
      exact w_iret K hr0 X wM_fstx hsz dX8_size_84
    have h0 := if_f c10 h0
    by_cases c12 : a1 = 3
    · have h0 := if_t c12 h0
      refine lv_tableIn (off := 60) (tgt := 85) hx hb dX8_size_25 (by rw [c12]; decide) (by rw [c12]; decide) (by rw [c12]; decide) (by decide) ?_
      refine lv_aload_n hx hb dX8_size_85 rfl (lv_at hl 0 rfl) ?_
      refine lv_iconst (v := 0) hx hb dX8_size_86 (by decide) ?_
      obtain ⟨x13, ex13, h0⟩ := ob_out h0
      have kx13 := m_X8_many l D ca am n Mv4 xs 0 x13 ex13 H.size
      refine w_callV0 K X wM_fstx kx13 hl.1 1 q1672 q1674 q56 q97 q1675 hv_X8_many ⟨⟨Nat.le_of_ble_eq_true rfl, Nat.le_of_ble_eq_true rfl⟩, rfl, rfl⟩ pl_modo rfl rfl rfl rfl (Nat.le_of_ble_eq_true rfl) dX8_size_87 ⟨Nat.le_of_ble_eq_true rfl, Nat.le_of_ble_eq_true rfl⟩ rfl (fun H locs X => ?_)
      have h0 := Option.some.inj h0
      obtain ⟨q_0, q_1⟩ := Prod.mk.inj h0
      subst q_0
      subst q_1
      subst hQ
      exact w_iret K hr0 X wM_fstx hsz dX8_size_90
    have h0 := if_f c12 h0
    by_cases c14 : a1 = 4
    · have h0 := if_t c14 h0
      refine lv_tableIn (off := 66) (tgt := 91) hx hb dX8_size_25 (by rw [c14]; decide) (by rw [c14]; decide) (by rw [c14]; decide) (by decide) ?_
      refine lv_aload_n hx hb dX8_size_91 rfl (lv_at hl 0 rfl) ?_
      refine lv_iconst (v := 1) hx hb dX8_size_92 (by decide) ?_
      obtain ⟨x15, ex15, h0⟩ := ob_out h0
      have kx15 := m_X8_many l D ca am n Mv4 xs 1 x15 ex15 H.size
      refine w_callV0 K X wM_fstx kx15 hl.1 1 q1672 q1674 q56 q97 q1675 hv_X8_many ⟨⟨Nat.le_of_ble_eq_true rfl, Nat.le_of_ble_eq_true rfl⟩, rfl, rfl⟩ pl_modo rfl rfl rfl rfl (Nat.le_of_ble_eq_true rfl) dX8_size_93 ⟨Nat.le_of_ble_eq_true rfl, Nat.le_of_ble_eq_true rfl⟩ rfl (fun H locs X => ?_)
      have h0 := Option.some.inj h0
      obtain ⟨q_0, q_1⟩ := Prod.mk.inj h0
      subst q_0
      subst q_1
      subst hQ
      exact w_iret K hr0 X wM_fstx hsz dX8_size_96
    have h0 := if_f c14 h0
    by_cases c16 : a1 = 5
    · have h0 := if_t c16 h0
      refine lv_tableIn (off := 72) (tgt := 97) hx hb dX8_size_25 (by rw [c16]; decide) (by rw [c16]; decide) (by rw [c16]; decide) (by decide) ?_
      refine lv_aload_n hx hb dX8_size_97 rfl (lv_at hl 0 rfl) ?_
      refine lv_iconst (v := 2) hx hb dX8_size_98 (by decide) ?_
      obtain ⟨x17, ex17, h0⟩ := ob_out h0
      have kx17 := m_X8_many l D ca am n Mv4 xs 2 x17 ex17 H.size
      refine w_callV0 K X wM_fstx kx17 hl.1 1 q1672 q1674 q56 q97 q1675 hv_X8_many ⟨⟨Nat.le_of_ble_eq_true rfl, Nat.le_of_ble_eq_true rfl⟩, rfl, rfl⟩ pl_modo rfl rfl rfl rfl (Nat.le_of_ble_eq_true rfl) dX8_size_99 ⟨Nat.le_of_ble_eq_true rfl, Nat.le_of_ble_eq_true rfl⟩ rfl (fun H locs X => ?_)
      have h0 := Option.some.inj h0
      obtain ⟨q_0, q_1⟩ := Prod.mk.inj h0
      subst q_0
      subst q_1
      subst hQ
      exact w_iret K hr0 X wM_fstx hsz dX8_size_102
    have h0 := if_f c16 h0
    refine lv_tableOut (tgt := 103) hx hb dX8_size_25 (by have gc6 := lv_neT (a := 0) c6 (by decide); have gc8 := lv_neT (a := 1) c8 (by decide); have gc10 := lv_neT (a := 2) c10 (by decide); have gc12 := lv_neT (a := 3) c12 (by decide); have gc14 := lv_neT (a := 4) c14 (by decide); have gc16 := lv_neT (a := 5) c16 (by decide); omega) (by decide) ?_
    refine lv_aload_n hx hb dX8_size_103 rfl (lv_at hl 0 rfl) ?_
    refine lv_iload_n hx hb dX8_size_104 rfl (lv_at hl 1 rfl) ?_
    refine lv_bipush (v := 6) hx hb dX8_size_105 (by decide) ?_
    refine lv_isub hx hb dX8_size_107 ?_
    obtain ⟨x18, ex18, h0⟩ := ob_out h0
    have kx18 := m_X8_inLeg l D ca am n Mv4 xs (a1 - 6) x18 ex18 H.size
    refine w_callV0 K X wM_fstx kx18 hl.1 1 q1681 q1683 q57 q97 q1684 hv_X8_inLeg ⟨⟨Nat.le_of_ble_eq_true rfl, Nat.le_of_ble_eq_true rfl⟩, rfl, rfl⟩ pl_modo rfl rfl rfl rfl (Nat.le_of_ble_eq_true rfl) dX8_size_108 ⟨Nat.le_of_ble_eq_true rfl, Nat.le_of_ble_eq_true rfl⟩ rfl (fun H locs X => ?_)
    have h0 := Option.some.inj h0
    obtain ⟨q_0, q_1⟩ := Prod.mk.inj h0
    subst q_0
    subst q_1
    subst hQ
    exact w_iret K hr0 X wM_fstx hsz dX8_size_111
  · have h0 := if_t c5 h0
    refine lv_iconst (v := 0) hx hb dX8_size_22 (by decide) ?_
    have h0 := Option.some.inj h0
    obtain ⟨q_0, q_1⟩ := Prod.mk.inj h0
    subst q_0
    subst q_1
    subst hQ
    exact w_iret K hr0 X wM_fstx hsz dX8_size_23
-- X8_isPoint
def f_X8_isPoint (M : RowS) (a1 : Int32) : Option Bool :=
  if 0 ≤ (0 : Int32).toInt ∧ (0 : Int32).toInt < 102 then
    lt (f_X8_in a1.toInt64 0 (((M.1 1 (0 : Int32).toNatClampNeg) - 1).toInt64)) fun x2 =>
    some x2
  else none
abbrev rm_X8_isPoint : Room := { frames := 1, cells := 0, slots := 0, locals := 25 }
set_option maxRecDepth 100000 in
set_option maxHeartbeats 4000000 in
theorem m_X8_isPoint (l : Launch) (D : va_G) (ca : Nat → ClassId) (am : Nat → Nat) (M : RowS) (xs : va_W) (a1 : Int32) (res : Bool) (h0 : f_X8_isPoint M a1 = some res) (sz : Nat) : Met l yX8_isPoint (ws_ yX8_isPoint cX8_isPoint 2 (some .boolean)) rm_X8_isPoint (PCw D ca (wM am ca M ++ xs) sz [.ref (am 0), .int a1]) (QMw D (wM am ca M ++ xs) (wM am ca M ++ xs) sz (some (.int (b2i res)))) 0 0 (AL (wM am ca M ++ xs) sz) := by
  refine met_of (by decide) (Nat.le_of_ble_eq_true rfl) (fun p e s m args below meth c K hr0 X hsz ls hl => ?_)
  have K : MC D ca p s m args meth c cX8_isPoint 2 RX8 := K
  have hx := K.1
  have hb := K.2.1
  have hl : lv_has ls 2 [(0, .ref (am 0)), (1, .int a1)] := hl
  generalize hQ : MQ below _ args s 0 0 _ = Q
  unfold f_X8_isPoint at h0
  suffices Z : ∀ (H : Heap) (locs : List Loc) (X : RW D (wM am ca M ++ xs) s.heap H locs), W p l e rm_X8_isPoint s m args below meth c H locs 0 0 Q (F0 m 0 ls []) from Z _ _ X
  intro H locs X
  refine lv_iload_n hx hb dX8_isPoint_0 rfl (lv_at hl 1 rfl) ?_
  refine lv_i2l hx hb dX8_isPoint_1 rfl ?_
  refine lv_lconst (v := 0) hx hb dX8_isPoint_2 (by decide) ?_
  refine lv_aload_n hx hb dX8_isPoint_3 rfl (lv_at hl 0 rfl) ?_
  refine g_modr K X 1 (by decide) (fun _ _ => rfl) q1400 dX8_isPoint_4 ?_
  refine lv_iconst (v := 0) hx hb dX8_isPoint_7 (by decide) ?_
  obtain ⟨c1, h0⟩ := if_o h0
  refine a_modi K X 1 1 102 rfl rfl (inb_vp c1) dX8_isPoint_8 ?_
  refine lv_iconst (v := 1) hx hb dX8_isPoint_9 (by decide) ?_
  refine lv_isub hx hb dX8_isPoint_10 ?_
  refine lv_i2l hx hb dX8_isPoint_11 rfl ?_
  obtain ⟨x2, ex2, h0⟩ := lt_out h0
  have kx2 := m_X8_in l D ca (wM am ca M ++ xs) a1.toInt64 0 (((M.1 1 (0 : Int32).toNatClampNeg) - 1).toInt64) x2 ex2.symm H.size
  refine w_callS0 K X wM_fstx kx2 hl.1 3 q1504 q1505 q97 q1506 hs_X8_in ⟨⟨Nat.le_of_ble_eq_true rfl, Nat.le_of_ble_eq_true rfl⟩, rfl, rfl⟩ rfl rfl (Nat.le_of_ble_eq_true rfl) dX8_isPoint_12 ⟨Nat.le_of_ble_eq_true rfl, Nat.le_of_ble_eq_true rfl⟩ rfl (fun H locs X => ?_)
  have h0 := Option.some.inj h0
  subst h0
  subst hQ
  exact w_zret K hr0 X wM_fstx hsz (b2i_nar _) dX8_isPoint_15
-- X8_isLeg
def f_X8_isLeg (a1 : Int32) : Bool :=
  lt (f_X8_in a1.toInt64 0 1) fun x1 =>
  x1
abbrev rm_X8_isLeg : Room := { frames := 1, cells := 0, slots := 0, locals := 25 }
set_option maxRecDepth 100000 in
set_option maxHeartbeats 4000000 in
theorem m_X8_isLeg (l : Launch) (D : va_G) (ca : Nat → ClassId) (ws : va_W) (a1 : Int32) (res : Bool) (h0 : f_X8_isLeg a1 = res) (sz : Nat) : Met l yX8_isLeg (ws_ yX8_isLeg cX8_isLeg 1 (some .boolean)) rm_X8_isLeg (PCw D ca (ws) sz [.int a1]) (QMw D (ws) (ws) sz (some (.int (b2i res)))) 0 0 (AL (ws) sz) := by
  refine met_of (by decide) (Nat.le_of_ble_eq_true rfl) (fun p e s m args below meth c K hr0 X hsz ls hl => ?_)
  have K : MC D ca p s m args meth c cX8_isLeg 1 RX8 := K
  have hx := K.1
  have hb := K.2.1
  have hl : lv_has ls 1 [(0, .int a1)] := hl
  generalize hQ : MQ below _ args s 0 0 _ = Q
  unfold f_X8_isLeg at h0
  suffices Z : ∀ (H : Heap) (locs : List Loc) (X : RW D (ws) s.heap H locs), W p l e rm_X8_isLeg s m args below meth c H locs 0 0 Q (F0 m 0 ls []) from Z _ _ X
  intro H locs X
  refine lv_iload_n hx hb dX8_isLeg_0 rfl (lv_at hl 0 rfl) ?_
  refine lv_i2l hx hb dX8_isLeg_1 rfl ?_
  refine lv_lconst (v := 0) hx hb dX8_isLeg_2 (by decide) ?_
  refine lv_lconst (v := 1) hx hb dX8_isLeg_3 (by decide) ?_
  obtain ⟨x1, ex1, h0⟩ := lt_out h0
  have kx1 := m_X8_in l D ca (ws) a1.toInt64 0 1 x1 ex1.symm H.size
  refine w_callS0 K X rfl kx1 hl.1 3 q1504 q1505 q97 q1506 hs_X8_in ⟨⟨Nat.le_of_ble_eq_true rfl, Nat.le_of_ble_eq_true rfl⟩, rfl, rfl⟩ rfl rfl (Nat.le_of_ble_eq_true rfl) dX8_isLeg_4 ⟨Nat.le_of_ble_eq_true rfl, Nat.le_of_ble_eq_true rfl⟩ rfl (fun H locs X => ?_)
  subst h0
  subst hQ
  exact w_zret K hr0 X rfl hsz (b2i_nar _) dX8_isLeg_7
-- X8_isTube
def f_X8_isTube (M : RowS) (a1 : Int32) : Option Bool :=
  if 0 ≤ (2 : Int32).toInt ∧ (2 : Int32).toInt < 102 then
    lt (f_X8_in a1.toInt64 0 (((M.1 1 (2 : Int32).toNatClampNeg) - 1).toInt64)) fun x2 =>
    some x2
  else none
abbrev rm_X8_isTube : Room := { frames := 1, cells := 0, slots := 0, locals := 25 }
set_option maxRecDepth 100000 in
set_option maxHeartbeats 4000000 in
theorem m_X8_isTube (l : Launch) (D : va_G) (ca : Nat → ClassId) (am : Nat → Nat) (M : RowS) (xs : va_W) (a1 : Int32) (res : Bool) (h0 : f_X8_isTube M a1 = some res) (sz : Nat) : Met l yX8_isTube (ws_ yX8_isTube cX8_isTube 2 (some .boolean)) rm_X8_isTube (PCw D ca (wM am ca M ++ xs) sz [.ref (am 0), .int a1]) (QMw D (wM am ca M ++ xs) (wM am ca M ++ xs) sz (some (.int (b2i res)))) 0 0 (AL (wM am ca M ++ xs) sz) := by
  refine met_of (by decide) (Nat.le_of_ble_eq_true rfl) (fun p e s m args below meth c K hr0 X hsz ls hl => ?_)
  have K : MC D ca p s m args meth c cX8_isTube 2 RX8 := K
  have hx := K.1
  have hb := K.2.1
  have hl : lv_has ls 2 [(0, .ref (am 0)), (1, .int a1)] := hl
  generalize hQ : MQ below _ args s 0 0 _ = Q
  unfold f_X8_isTube at h0
  suffices Z : ∀ (H : Heap) (locs : List Loc) (X : RW D (wM am ca M ++ xs) s.heap H locs), W p l e rm_X8_isTube s m args below meth c H locs 0 0 Q (F0 m 0 ls []) from Z _ _ X
  intro H locs X
  refine lv_iload_n hx hb dX8_isTube_0 rfl (lv_at hl 1 rfl) ?_
  refine lv_i2l hx hb dX8_isTube_1 rfl ?_
  refine lv_lconst (v := 0) hx hb dX8_isTube_2 (by decide) ?_
  refine lv_aload_n hx hb dX8_isTube_3 rfl (lv_at hl 0 rfl) ?_
  refine g_modr K X 1 (by decide) (fun _ _ => rfl) q1400 dX8_isTube_4 ?_
  refine lv_iconst (v := 2) hx hb dX8_isTube_7 (by decide) ?_
  obtain ⟨c1, h0⟩ := if_o h0
  refine a_modi K X 1 1 102 rfl rfl (inb_vp c1) dX8_isTube_8 ?_
  refine lv_iconst (v := 1) hx hb dX8_isTube_9 (by decide) ?_
  refine lv_isub hx hb dX8_isTube_10 ?_
  refine lv_i2l hx hb dX8_isTube_11 rfl ?_
  obtain ⟨x2, ex2, h0⟩ := lt_out h0
  have kx2 := m_X8_in l D ca (wM am ca M ++ xs) a1.toInt64 0 (((M.1 1 (2 : Int32).toNatClampNeg) - 1).toInt64) x2 ex2.symm H.size
  refine w_callS0 K X wM_fstx kx2 hl.1 3 q1504 q1505 q97 q1506 hs_X8_in ⟨⟨Nat.le_of_ble_eq_true rfl, Nat.le_of_ble_eq_true rfl⟩, rfl, rfl⟩ rfl rfl (Nat.le_of_ble_eq_true rfl) dX8_isTube_12 ⟨Nat.le_of_ble_eq_true rfl, Nat.le_of_ble_eq_true rfl⟩ rfl (fun H locs X => ?_)
  have h0 := Option.some.inj h0
  subst h0
  subst hQ
  exact w_zret K hr0 X wM_fstx hsz (b2i_nar _) dX8_isTube_15
-- X8_pressure
def f_X8_pressure (M : RowS) (a1 : Int32) : Option (Int32 × RowS) :=
  lt (si M 0 0 0) fun Mv1 =>
  ob (f_X8_isPoint Mv1 a1) fun x2 =>
  lt (f_X8_fails Mv1 (b2i x2) 1) fun x3 =>
  lt (x3.2) fun Mv4 =>
  if x3.1 = true then
    some (0, Mv4)
  else
    if 0 ≤ (4 + a1).toInt ∧ (4 + a1).toInt < 102 then
      some ((Mv4.1 1 (4 + a1).toNatClampNeg), Mv4)
    else none
abbrev rm_X8_pressure : Room := { frames := 2, cells := 0, slots := 0, locals := 46 }
set_option maxRecDepth 100000 in
set_option maxHeartbeats 4000000 in
theorem m_X8_pressure (l : Launch) (D : va_G) (ca : Nat → ClassId) (am : Nat → Nat) (M : RowS) (xs : va_W) (a1 : Int32) (res : Int32) (M' : RowS) (h0 : f_X8_pressure M a1 = some (res, M')) (sz : Nat) : Met l yX8_pressure (ws_ yX8_pressure cX8_pressure 2 (some .int)) rm_X8_pressure (PCw D ca (wM am ca M ++ xs) sz [.ref (am 0), .int a1]) (QMw D (wM am ca M ++ xs) (wM am ca (M') ++ xs) sz (some (.int res))) 0 0 (AL (wM am ca M ++ xs) sz) := by
  refine met_of (by decide) (Nat.le_of_ble_eq_true rfl) (fun p e s m args below meth c K hr0 X hsz ls hl => ?_)
  have K : MC D ca p s m args meth c cX8_pressure 2 RX8 := K
  have hx := K.1
  have hb := K.2.1
  have hl : lv_has ls 2 [(0, .ref (am 0)), (1, .int a1)] := hl
  generalize hQ : MQ below _ args s 0 0 _ = Q
  unfold f_X8_pressure at h0
  suffices Z : ∀ (H : Heap) (locs : List Loc) (X : RW D (wM am ca M ++ xs) s.heap H locs), W p l e rm_X8_pressure s m args below meth c H locs 0 0 Q (F0 m 0 ls []) from Z _ _ X
  intro H locs X
  refine lv_aload_n hx hb dX8_pressure_0 rfl (lv_at hl 0 rfl) ?_
  refine lv_iconst (v := 0) hx hb dX8_pressure_1 (by decide) ?_
  obtain ⟨Mv1, eMv1, h0⟩ := lt_out h0
  refine p_modi (ty := .int) K X 0 (by decide) (fun _ _ => rfl) (by decide +kernel) ⟨rfl, rfl⟩ eMv1 q1399 dX8_pressure_2 (fun H locs X => ?_)
  refine lv_aload_n hx hb dX8_pressure_5 rfl (lv_at hl 0 rfl) ?_
  refine lv_aload_n hx hb dX8_pressure_6 rfl (lv_at hl 0 rfl) ?_
  refine lv_iload_n hx hb dX8_pressure_7 rfl (lv_at hl 1 rfl) ?_
  obtain ⟨x2, ex2, h0⟩ := ob_out h0
  have kx2 := m_X8_isPoint l D ca am Mv1 xs a1 x2 ex2 H.size
  refine w_callV0 K X wM_fstx kx2 hl.1 1 q1689 q1691 q58 q97 q1692 hv_X8_isPoint ⟨⟨Nat.le_of_ble_eq_true rfl, Nat.le_of_ble_eq_true rfl⟩, rfl, rfl⟩ pl_modo rfl rfl rfl rfl (Nat.le_of_ble_eq_true rfl) dX8_pressure_8 ⟨Nat.le_of_ble_eq_true rfl, Nat.le_of_ble_eq_true rfl⟩ rfl (fun H locs X => ?_)
  refine lv_iconst (v := 1) hx hb dX8_pressure_11 (by decide) ?_
  obtain ⟨x3, ex3, h0⟩ := lt_out h0
  obtain ⟨Mv4, eMv4, h0⟩ := lt_out h0
  have kx3 := m_X8_fails l D ca am Mv1 xs (b2i x2) 1 x3.1 x3.2 ex3.symm H.size
  rw [← eMv4] at kx3
  refine w_callV0 K X wM_fstx kx3 hl.1 2 q1507 q1509 q22 q97 q1510 hv_X8_fails ⟨⟨Nat.le_of_ble_eq_true rfl, Nat.le_of_ble_eq_true rfl⟩, rfl, rfl⟩ pl_modo rfl rfl rfl rfl (Nat.le_of_ble_eq_true rfl) dX8_pressure_12 ⟨Nat.le_of_ble_eq_true rfl, Nat.le_of_ble_eq_true rfl⟩ rfl (fun H locs X => ?_)
  refine w_zeq (tgt := 22) K dX8_pressure_15 (by decide) (fun c5 => ?_) (fun c5 => ?_)
  · have h0 := if_f c5 h0
    refine lv_aload_n hx hb dX8_pressure_22 rfl (lv_at hl 0 rfl) ?_
    refine g_modr K X 1 (by decide) (fun _ _ => rfl) q1400 dX8_pressure_23 ?_
    refine lv_iconst (v := 4) hx hb dX8_pressure_26 (by decide) ?_
    refine lv_iload_n hx hb dX8_pressure_27 rfl (lv_at hl 1 rfl) ?_
    refine lv_iadd hx hb dX8_pressure_28 ?_
    obtain ⟨c6, h0⟩ := if_o h0
    refine a_modi K X 1 1 102 rfl rfl (inb_vp c6) dX8_pressure_29 ?_
    have h0 := Option.some.inj h0
    obtain ⟨q_0, q_1⟩ := Prod.mk.inj h0
    subst q_0
    subst q_1
    subst hQ
    exact w_iret K hr0 X wM_fstx hsz dX8_pressure_30
  · have h0 := if_t c5 h0
    refine lv_iconst (v := 0) hx hb dX8_pressure_18 (by decide) ?_
    refine lv_goto (tgt := 30) hx hb dX8_pressure_19 (by decide) ?_
    have h0 := Option.some.inj h0
    obtain ⟨q_0, q_1⟩ := Prod.mk.inj h0
    subst q_0
    subst q_1
    subst hQ
    exact w_iret K hr0 X wM_fstx hsz dX8_pressure_30
-- X8_leg
def b_X8_leg_30 (n : Nat) (a1 : Int32) (a2 : Int32) (y30_s1 : Int32) (M_30 : RowS) : Option (Int32 × RowS) :=
  lt (f_X8_fails M_30 y30_s1 1) fun x4 =>
  lt (x4.2) fun Mv5 =>
  if x4.1 = true then
    some (0, Mv5)
  else
    if a2 = 3 then
      ob (f_X8_levelOf n Mv5 a1) fun x9 =>
      some (x9.toInt32, Mv5)
    else
      ob (f_X8_ofLeg Mv5 a1 a2) fun x8 =>
      some (x8, Mv5)
def b_X8_leg_29 (n : Nat) (a1 : Int32) (a2 : Int32) (M_29 : RowS) : Option (Int32 × RowS) :=
  b_X8_leg_30 n a1 a2 0 M_29
def f_X8_leg (n : Nat) (M : RowS) (a1 : Int32) (a2 : Int32) : Option (Int32 × RowS) :=
  lt (si M 0 0 0) fun Mv1 =>
  lt (f_X8_isLeg a1) fun x2 =>
  if x2 = true then
    lt (f_X8_in a2.toInt64 0 3) fun x10 =>
    if x10 = true then
      b_X8_leg_30 n a1 a2 1 Mv1
    else
      b_X8_leg_29 n a1 a2 Mv1
  else
    b_X8_leg_29 n a1 a2 Mv1
abbrev rm_X8_leg : Room := { frames := 7, cells := 0, slots := 0, locals := 169 }
set_option maxRecDepth 100000 in
set_option maxHeartbeats 4000000 in
theorem m_X8_leg (l : Launch) (D : va_G) (ca : Nat → ClassId) (am : Nat → Nat) (n : Nat) (M : RowS) (xs : va_W) (a1 : Int32) (a2 : Int32) (res : Int32) (M' : RowS) (h0 : f_X8_leg n M a1 a2 = some (res, M')) (sz : Nat) : Met l yX8_leg (ws_ yX8_leg cX8_leg 3 (some .int)) rm_X8_leg (PCw D ca (wM am ca M ++ xs) sz [.ref (am 0), .int a1, .int a2]) (QMw D (wM am ca M ++ xs) (wM am ca (M') ++ xs) sz (some (.int res))) 0 0 (AL (wM am ca M ++ xs) sz) := by
  refine met_of (by decide) (Nat.le_of_ble_eq_true rfl) (fun p e s m args below meth c K hr0 X hsz ls hl => ?_)
  have K : MC D ca p s m args meth c cX8_leg 3 RX8 := K
  have hx := K.1
  have hb := K.2.1
  have hl : lv_has ls 3 [(0, .ref (am 0)), (1, .int a1), (2, .int a2)] := hl
  generalize hQ : MQ below _ args s 0 0 _ = Q
  unfold f_X8_leg at h0
  suffices Z : ∀ (H : Heap) (locs : List Loc) (X : RW D (wM am ca M ++ xs) s.heap H locs), W p l e rm_X8_leg s m args below meth c H locs 0 0 Q (F0 m 0 ls []) from Z _ _ X
  intro H locs X
  have J30 : ∀ (y30_s1 : Int32) (M_30 : RowS) (H : Heap) (locs : List Loc) (X : RW D (wM am ca M_30 ++ xs) s.heap H locs) (ls : Array Slot) (hl : lv_has ls 3 [(0, .ref (am 0)), (1, .int a1), (2, .int a2)]) (h0 : b_X8_leg_30 n a1 a2 y30_s1 M_30 = some (res, M')), W p l e rm_X8_leg s m args below meth c H locs 0 0 Q (F0 m 30 ls [.int y30_s1, .ref (am 0)]) := by
    intro y30_s1 M_30 H locs X ls hl h0
    unfold b_X8_leg_30 at h0
    refine lv_iconst (v := 1) hx hb dX8_leg_30 (by decide) ?_
    obtain ⟨x4, ex4, h0⟩ := lt_out h0
    obtain ⟨Mv5, eMv5, h0⟩ := lt_out h0
    have kx4 := m_X8_fails l D ca am M_30 xs y30_s1 1 x4.1 x4.2 ex4.symm H.size
    rw [← eMv5] at kx4
    refine w_callV0 K X wM_fstx kx4 hl.1 2 q1507 q1509 q22 q97 q1510 hv_X8_fails ⟨⟨Nat.le_of_ble_eq_true rfl, Nat.le_of_ble_eq_true rfl⟩, rfl, rfl⟩ pl_modo rfl rfl rfl rfl (Nat.le_of_ble_eq_true rfl) dX8_leg_31 ⟨Nat.le_of_ble_eq_true rfl, Nat.le_of_ble_eq_true rfl⟩ rfl (fun H locs X => ?_)
    refine w_zeq (tgt := 39) K dX8_leg_34 (by decide) (fun c6 => ?_) (fun c6 => ?_)
    · have h0 := if_f c6 h0
      refine lv_iload_n hx hb dX8_leg_39 rfl (lv_at hl 2 rfl) ?_
      refine lv_iconst (v := 3) hx hb dX8_leg_40 (by decide) ?_
      refine lv_icmp_ne (tgt := 53) hx hb dX8_leg_41 (by decide) (fun c7 => ?_) (fun c7 => ?_)
      · have h0 := if_f c7 h0
        refine lv_aload_n hx hb dX8_leg_53 rfl (lv_at hl 0 rfl) ?_
        refine lv_iload_n hx hb dX8_leg_54 rfl (lv_at hl 1 rfl) ?_
        refine lv_iload_n hx hb dX8_leg_55 rfl (lv_at hl 2 rfl) ?_
        obtain ⟨x8, ex8, h0⟩ := ob_out h0
        have kx8 := m_X8_ofLeg l D ca am Mv5 xs a1 a2 x8 ex8 H.size
        refine w_callV0 K X wM_fstx kx8 hl.1 2 q1627 q1629 q46 q97 q1630 hv_X8_ofLeg ⟨⟨Nat.le_of_ble_eq_true rfl, Nat.le_of_ble_eq_true rfl⟩, rfl, rfl⟩ pl_modo rfl rfl rfl rfl (Nat.le_of_ble_eq_true rfl) dX8_leg_56 ⟨Nat.le_of_ble_eq_true rfl, Nat.le_of_ble_eq_true rfl⟩ rfl (fun H locs X => ?_)
        have h0 := Option.some.inj h0
        obtain ⟨q_0, q_1⟩ := Prod.mk.inj h0
        subst q_0
        subst q_1
        subst hQ
        exact w_iret K hr0 X wM_fstx hsz dX8_leg_59
      · have h0 := if_t c7 h0
        refine lv_aload_n hx hb dX8_leg_44 rfl (lv_at hl 0 rfl) ?_
        refine lv_iload_n hx hb dX8_leg_45 rfl (lv_at hl 1 rfl) ?_
        obtain ⟨x9, ex9, h0⟩ := ob_out h0
        have kx9 := m_X8_levelOf l D ca am n Mv5 xs a1 x9 ex9 H.size
        refine w_callV0 K X wM_fstx kx9 hl.1 1 q1623 q1625 q45 q97 q1626 hv_X8_levelOf ⟨⟨Nat.le_of_ble_eq_true rfl, Nat.le_of_ble_eq_true rfl⟩, rfl, rfl⟩ pl_modo rfl rfl rfl rfl (Nat.le_of_ble_eq_true rfl) dX8_leg_46 ⟨Nat.le_of_ble_eq_true rfl, Nat.le_of_ble_eq_true rfl⟩ rfl (fun H locs X => ?_)
        refine lv_l2i hx hb dX8_leg_49 rfl ?_
        refine lv_goto (tgt := 59) hx hb dX8_leg_50 (by decide) ?_
        have h0 := Option.some.inj h0
        obtain ⟨q_0, q_1⟩ := Prod.mk.inj h0
        subst q_0
        subst q_1
        subst hQ
        exact w_iret K hr0 X wM_fstx hsz dX8_leg_59
    · have h0 := if_t c6 h0
      refine lv_iconst (v := 0) hx hb dX8_leg_37 (by decide) ?_
      have h0 := Option.some.inj h0
      obtain ⟨q_0, q_1⟩ := Prod.mk.inj h0
      subst q_0
      subst q_1
      subst hQ
      exact w_iret K hr0 X wM_fstx hsz dX8_leg_38
  have J29 : ∀ (M_29 : RowS) (H : Heap) (locs : List Loc) (X : RW D (wM am ca M_29 ++ xs) s.heap H locs) (ls : Array Slot) (hl : lv_has ls 3 [(0, .ref (am 0)), (1, .int a1), (2, .int a2)]) (h0 : b_X8_leg_29 n a1 a2 M_29 = some (res, M')), W p l e rm_X8_leg s m args below meth c H locs 0 0 Q (F0 m 29 ls [.ref (am 0)]) := by
    intro M_29 H locs X ls hl h0
    unfold b_X8_leg_29 at h0
    refine lv_iconst (v := 0) hx hb dX8_leg_29 (by decide) ?_
    exact J30 0 M_29 H locs X ls (lv_sub hl [0, 1, 2] rfl) h0
  refine lv_aload_n hx hb dX8_leg_0 rfl (lv_at hl 0 rfl) ?_
  refine lv_iconst (v := 0) hx hb dX8_leg_1 (by decide) ?_
  obtain ⟨Mv1, eMv1, h0⟩ := lt_out h0
  refine p_modi (ty := .int) K X 0 (by decide) (fun _ _ => rfl) (by decide +kernel) ⟨rfl, rfl⟩ eMv1 q1399 dX8_leg_2 (fun H locs X => ?_)
  refine lv_aload_n hx hb dX8_leg_5 rfl (lv_at hl 0 rfl) ?_
  refine lv_iload_n hx hb dX8_leg_6 rfl (lv_at hl 1 rfl) ?_
  obtain ⟨x2, ex2, h0⟩ := lt_out h0
  have kx2 := m_X8_isLeg l D ca (wM am ca Mv1 ++ xs) a1 x2 ex2.symm H.size
  refine w_callS0 K X wM_fstx kx2 hl.1 1 q1697 q1698 q97 q1699 hs_X8_isLeg ⟨⟨Nat.le_of_ble_eq_true rfl, Nat.le_of_ble_eq_true rfl⟩, rfl, rfl⟩ rfl rfl (Nat.le_of_ble_eq_true rfl) dX8_leg_7 ⟨Nat.le_of_ble_eq_true rfl, Nat.le_of_ble_eq_true rfl⟩ rfl (fun H locs X => ?_)
  refine w_zeq (tgt := 29) K dX8_leg_10 (by decide) (fun c3 => ?_) (fun c3 => ?_)
  · have h0 := if_f c3 h0
    exact J29 Mv1 H locs X ls (lv_sub hl [0, 1, 2] rfl) h0
  · have h0 := if_t c3 h0
    refine lv_iload_n hx hb dX8_leg_13 rfl (lv_at hl 2 rfl) ?_
    refine lv_i2l hx hb dX8_leg_14 rfl ?_
    refine lv_lconst (v := 0) hx hb dX8_leg_15 (by decide) ?_
    refine lv_ldc2 hx hb K.2.2.2.1 (K.2.2.2.2.1 _ q1700) dX8_leg_16 ?_
    obtain ⟨x10, ex10, h0⟩ := lt_out h0
    have kx10 := m_X8_in l D ca (wM am ca Mv1 ++ xs) a2.toInt64 0 3 x10 ex10.symm H.size
    refine w_callS0 K X wM_fstx kx10 hl.1 3 q1504 q1505 q97 q1506 hs_X8_in ⟨⟨Nat.le_of_ble_eq_true rfl, Nat.le_of_ble_eq_true rfl⟩, rfl, rfl⟩ rfl rfl (Nat.le_of_ble_eq_true rfl) dX8_leg_19 ⟨Nat.le_of_ble_eq_true rfl, Nat.le_of_ble_eq_true rfl⟩ rfl (fun H locs X => ?_)
    refine w_zeq (tgt := 29) K dX8_leg_22 (by decide) (fun c11 => ?_) (fun c11 => ?_)
    · have h0 := if_f c11 h0
      exact J29 Mv1 H locs X ls (lv_sub hl [0, 1, 2] rfl) h0
    · have h0 := if_t c11 h0
      refine lv_iconst (v := 1) hx hb dX8_leg_25 (by decide) ?_
      refine lv_goto (tgt := 30) hx hb dX8_leg_26 (by decide) ?_
      exact J30 1 Mv1 H locs X ls (lv_sub hl [0, 1, 2] rfl) h0
-- X8_leftOf
def f_X8_leftOf (n : Nat) (M : RowS) (a1 : Int32) : Option Int64 :=
  ob (f_X8_levelOf n M a1) fun x1 =>
  if 0 ≤ (0 + a1).toInt ∧ (0 + a1).toInt < 6 then
    ob (f_X8_ofLeg M a1 1) fun x3 =>
    ob (f_X8_volumesAt n M a1 x1) fun x4 =>
    some (((M.2 5 (0 + a1).toNatClampNeg) - (x3.toInt64 * x1)) - x4)
  else none
abbrev rm_X8_leftOf : Room := { frames := 7, cells := 0, slots := 0, locals := 169 }
set_option maxRecDepth 100000 in
set_option maxHeartbeats 4000000 in
theorem m_X8_leftOf (l : Launch) (D : va_G) (ca : Nat → ClassId) (am : Nat → Nat) (n : Nat) (M : RowS) (xs : va_W) (a1 : Int32) (res : Int64) (h0 : f_X8_leftOf n M a1 = some res) (sz : Nat) : Met l yX8_leftOf (ws_ yX8_leftOf cX8_leftOf 4 (some .long)) rm_X8_leftOf (PCw D ca (wM am ca M ++ xs) sz [.ref (am 0), .int a1]) (QMw D (wM am ca M ++ xs) (wM am ca M ++ xs) sz (some (.long res))) 0 0 (AL (wM am ca M ++ xs) sz) := by
  refine met_of (by decide) (Nat.le_of_ble_eq_true rfl) (fun p e s m args below meth c K hr0 X hsz ls hl => ?_)
  have K : MC D ca p s m args meth c cX8_leftOf 4 RX8 := K
  have hx := K.1
  have hb := K.2.1
  have hl : lv_has ls 4 [(0, .ref (am 0)), (1, .int a1)] := hl
  generalize hQ : MQ below _ args s 0 0 _ = Q
  unfold f_X8_leftOf at h0
  suffices Z : ∀ (H : Heap) (locs : List Loc) (X : RW D (wM am ca M ++ xs) s.heap H locs), W p l e rm_X8_leftOf s m args below meth c H locs 0 0 Q (F0 m 0 ls []) from Z _ _ X
  intro H locs X
  refine lv_aload_n hx hb dX8_leftOf_0 rfl (lv_at hl 0 rfl) ?_
  refine lv_iload_n hx hb dX8_leftOf_1 rfl (lv_at hl 1 rfl) ?_
  obtain ⟨x1, ex1, h0⟩ := ob_out h0
  have kx1 := m_X8_levelOf l D ca am n M xs a1 x1 ex1 H.size
  refine w_callV0 K X wM_fstx kx1 hl.1 1 q1623 q1625 q45 q97 q1626 hv_X8_levelOf ⟨⟨Nat.le_of_ble_eq_true rfl, Nat.le_of_ble_eq_true rfl⟩, rfl, rfl⟩ pl_modo rfl rfl rfl rfl (Nat.le_of_ble_eq_true rfl) dX8_leftOf_2 ⟨Nat.le_of_ble_eq_true rfl, Nat.le_of_ble_eq_true rfl⟩ rfl (fun H locs X => ?_)
  refine lv_lstore_n (lv' := [(2, .long x1), (0, .ref (am 0)), (1, .int a1)]) hx hb dX8_leftOf_5 rfl hl (by decide) rfl (fun ls hl => ?_)
  refine lv_aload_n hx hb dX8_leftOf_6 rfl (lv_at hl 1 rfl) ?_
  refine g_modr K X 5 (by decide) (fun _ _ => rfl) q1404 dX8_leftOf_7 ?_
  refine lv_iconst (v := 0) hx hb dX8_leftOf_10 (by decide) ?_
  refine lv_iload_n hx hb dX8_leftOf_11 rfl (lv_at hl 2 rfl) ?_
  refine lv_iadd hx hb dX8_leftOf_12 ?_
  obtain ⟨c2, h0⟩ := if_o h0
  refine a_modl K X 5 5 6 rfl rfl (inb_vp c2) dX8_leftOf_13 ?_
  refine lv_aload_n hx hb dX8_leftOf_14 rfl (lv_at hl 1 rfl) ?_
  refine lv_iload_n hx hb dX8_leftOf_15 rfl (lv_at hl 2 rfl) ?_
  refine lv_iconst (v := 1) hx hb dX8_leftOf_16 (by decide) ?_
  obtain ⟨x3, ex3, h0⟩ := ob_out h0
  have kx3 := m_X8_ofLeg l D ca am M xs a1 1 x3 ex3 H.size
  refine w_callV0 K X wM_fstx kx3 hl.1 2 q1627 q1629 q46 q97 q1630 hv_X8_ofLeg ⟨⟨Nat.le_of_ble_eq_true rfl, Nat.le_of_ble_eq_true rfl⟩, rfl, rfl⟩ pl_modo rfl rfl rfl rfl (Nat.le_of_ble_eq_true rfl) dX8_leftOf_17 ⟨Nat.le_of_ble_eq_true rfl, Nat.le_of_ble_eq_true rfl⟩ rfl (fun H locs X => ?_)
  refine lv_i2l hx hb dX8_leftOf_20 rfl ?_
  refine lv_lload_n hx hb dX8_leftOf_21 rfl (lv_at hl 0 rfl) ?_
  refine lv_lmul hx hb dX8_leftOf_22 ?_
  refine lv_lsub hx hb dX8_leftOf_23 ?_
  refine lv_aload_n hx hb dX8_leftOf_24 rfl (lv_at hl 1 rfl) ?_
  refine lv_iload_n hx hb dX8_leftOf_25 rfl (lv_at hl 2 rfl) ?_
  refine lv_lload_n hx hb dX8_leftOf_26 rfl (lv_at hl 0 rfl) ?_
  obtain ⟨x4, ex4, h0⟩ := ob_out h0
  have kx4 := m_X8_volumesAt l D ca am n M xs a1 x1 x4 ex4 H.size
  refine w_callV0 K X wM_fstx kx4 hl.1 2 q1647 q1649 q50 q97 q1650 hv_X8_volumesAt ⟨⟨Nat.le_of_ble_eq_true rfl, Nat.le_of_ble_eq_true rfl⟩, rfl, rfl⟩ pl_modo rfl rfl rfl rfl (Nat.le_of_ble_eq_true rfl) dX8_leftOf_27 ⟨Nat.le_of_ble_eq_true rfl, Nat.le_of_ble_eq_true rfl⟩ rfl (fun H locs X => ?_)
  refine lv_lsub hx hb dX8_leftOf_30 ?_
  have h0 := Option.some.inj h0
  subst h0
  subst hQ
  exact w_lret K hr0 X wM_fstx hsz dX8_leftOf_31
-- X8_account
def b_X8_account_30 (n : Nat) (a1 : Int32) (a2 : Int32) (y30_s1 : Int32) (M_30 : RowS) : Option (Int64 × RowS) :=
  lt (f_X8_fails M_30 y30_s1 1) fun x4 =>
  lt (x4.2) fun Mv5 =>
  if x4.1 = true then
    some (0, Mv5)
  else
    if a2 = 0 then
      if 0 ≤ (0 + a1).toInt ∧ (0 + a1).toInt < 6 then
        some ((Mv5.2 5 (0 + a1).toNatClampNeg), Mv5)
      else none
    else if a2 = 1 then
      ob (f_X8_levelOf n Mv5 a1) fun x10 =>
      ob (f_X8_volumesAt n Mv5 a1 x10) fun x11 =>
      some (x11, Mv5)
    else if a2 = 2 then
      if 0 ≤ (2 + a1).toInt ∧ (2 + a1).toInt < 6 then
        some ((Mv5.2 5 (2 + a1).toNatClampNeg), Mv5)
      else none
    else if a2 = 3 then
      if 0 ≤ (4 + a1).toInt ∧ (4 + a1).toInt < 6 then
        some ((Mv5.2 5 (4 + a1).toNatClampNeg), Mv5)
      else none
    else ob (f_X8_leftOf n Mv5 a1) fun x16 =>
    some (x16, Mv5)
def b_X8_account_29 (n : Nat) (a1 : Int32) (a2 : Int32) (M_29 : RowS) : Option (Int64 × RowS) :=
  b_X8_account_30 n a1 a2 0 M_29
def f_X8_account (n : Nat) (M : RowS) (a1 : Int32) (a2 : Int32) : Option (Int64 × RowS) :=
  lt (si M 0 0 0) fun Mv1 =>
  lt (f_X8_isLeg a1) fun x2 =>
  if x2 = true then
    lt (f_X8_in a2.toInt64 0 4) fun x17 =>
    if x17 = true then
      b_X8_account_30 n a1 a2 1 Mv1
    else
      b_X8_account_29 n a1 a2 Mv1
  else
    b_X8_account_29 n a1 a2 Mv1
abbrev rm_X8_account : Room := { frames := 8, cells := 0, slots := 0, locals := 192 }
set_option maxRecDepth 100000 in
set_option maxHeartbeats 4000000 in
theorem m_X8_account (l : Launch) (D : va_G) (ca : Nat → ClassId) (am : Nat → Nat) (n : Nat) (M : RowS) (xs : va_W) (a1 : Int32) (a2 : Int32) (res : Int64) (M' : RowS) (h0 : f_X8_account n M a1 a2 = some (res, M')) (sz : Nat) : Met l yX8_account (ws_ yX8_account cX8_account 3 (some .long)) rm_X8_account (PCw D ca (wM am ca M ++ xs) sz [.ref (am 0), .int a1, .int a2]) (QMw D (wM am ca M ++ xs) (wM am ca (M') ++ xs) sz (some (.long res))) 0 0 (AL (wM am ca M ++ xs) sz) := by
  refine met_of (by decide) (Nat.le_of_ble_eq_true rfl) (fun p e s m args below meth c K hr0 X hsz ls hl => ?_)
  have K : MC D ca p s m args meth c cX8_account 3 RX8 := K
  have hx := K.1
  have hb := K.2.1
  have hl : lv_has ls 3 [(0, .ref (am 0)), (1, .int a1), (2, .int a2)] := hl
  generalize hQ : MQ below _ args s 0 0 _ = Q
  unfold f_X8_account at h0
  suffices Z : ∀ (H : Heap) (locs : List Loc) (X : RW D (wM am ca M ++ xs) s.heap H locs), W p l e rm_X8_account s m args below meth c H locs 0 0 Q (F0 m 0 ls []) from Z _ _ X
  intro H locs X
  have J30 : ∀ (y30_s1 : Int32) (M_30 : RowS) (H : Heap) (locs : List Loc) (X : RW D (wM am ca M_30 ++ xs) s.heap H locs) (ls : Array Slot) (hl : lv_has ls 3 [(0, .ref (am 0)), (1, .int a1), (2, .int a2)]) (h0 : b_X8_account_30 n a1 a2 y30_s1 M_30 = some (res, M')), W p l e rm_X8_account s m args below meth c H locs 0 0 Q (F0 m 30 ls [.int y30_s1, .ref (am 0)]) := by
    intro y30_s1 M_30 H locs X ls hl h0
    unfold b_X8_account_30 at h0
    refine lv_iconst (v := 1) hx hb dX8_account_30 (by decide) ?_
    obtain ⟨x4, ex4, h0⟩ := lt_out h0
    obtain ⟨Mv5, eMv5, h0⟩ := lt_out h0
    have kx4 := m_X8_fails l D ca am M_30 xs y30_s1 1 x4.1 x4.2 ex4.symm H.size
    rw [← eMv5] at kx4
    refine w_callV0 K X wM_fstx kx4 hl.1 2 q1507 q1509 q22 q97 q1510 hv_X8_fails ⟨⟨Nat.le_of_ble_eq_true rfl, Nat.le_of_ble_eq_true rfl⟩, rfl, rfl⟩ pl_modo rfl rfl rfl rfl (Nat.le_of_ble_eq_true rfl) dX8_account_31 ⟨Nat.le_of_ble_eq_true rfl, Nat.le_of_ble_eq_true rfl⟩ rfl (fun H locs X => ?_)
    refine w_zeq (tgt := 39) K dX8_account_34 (by decide) (fun c6 => ?_) (fun c6 => ?_)
    · have h0 := if_f c6 h0
      refine lv_iload_n hx hb dX8_account_39 rfl (lv_at hl 2 rfl) ?_
      by_cases c7 : a2 = 0
      · have h0 := if_t c7 h0
        refine lv_tableIn (off := 32) (tgt := 72) hx hb dX8_account_40 (by rw [c7]; decide) (by rw [c7]; decide) (by rw [c7]; decide) (by decide) ?_
        refine lv_aload_n hx hb dX8_account_72 rfl (lv_at hl 0 rfl) ?_
        refine g_modr K X 5 (by decide) (fun _ _ => rfl) q1404 dX8_account_73 ?_
        refine lv_iconst (v := 0) hx hb dX8_account_76 (by decide) ?_
        refine lv_iload_n hx hb dX8_account_77 rfl (lv_at hl 1 rfl) ?_
        refine lv_iadd hx hb dX8_account_78 ?_
        obtain ⟨c8, h0⟩ := if_o h0
        refine a_modl K X 5 5 6 rfl rfl (inb_vp c8) dX8_account_79 ?_
        have h0 := Option.some.inj h0
        obtain ⟨q_0, q_1⟩ := Prod.mk.inj h0
        subst q_0
        subst q_1
        subst hQ
        exact w_lret K hr0 X wM_fstx hsz dX8_account_80
      have h0 := if_f c7 h0
      by_cases c9 : a2 = 1
      · have h0 := if_t c9 h0
        refine lv_tableIn (off := 41) (tgt := 81) hx hb dX8_account_40 (by rw [c9]; decide) (by rw [c9]; decide) (by rw [c9]; decide) (by decide) ?_
        refine lv_aload_n hx hb dX8_account_81 rfl (lv_at hl 0 rfl) ?_
        refine lv_iload_n hx hb dX8_account_82 rfl (lv_at hl 1 rfl) ?_
        refine lv_aload_n hx hb dX8_account_83 rfl (lv_at hl 0 rfl) ?_
        refine lv_iload_n hx hb dX8_account_84 rfl (lv_at hl 1 rfl) ?_
        obtain ⟨x10, ex10, h0⟩ := ob_out h0
        have kx10 := m_X8_levelOf l D ca am n Mv5 xs a1 x10 ex10 H.size
        refine w_callV0 K X wM_fstx kx10 hl.1 1 q1623 q1625 q45 q97 q1626 hv_X8_levelOf ⟨⟨Nat.le_of_ble_eq_true rfl, Nat.le_of_ble_eq_true rfl⟩, rfl, rfl⟩ pl_modo rfl rfl rfl rfl (Nat.le_of_ble_eq_true rfl) dX8_account_85 ⟨Nat.le_of_ble_eq_true rfl, Nat.le_of_ble_eq_true rfl⟩ rfl (fun H locs X => ?_)
        obtain ⟨x11, ex11, h0⟩ := ob_out h0
        have kx11 := m_X8_volumesAt l D ca am n Mv5 xs a1 x10 x11 ex11 H.size
        refine w_callV0 K X wM_fstx kx11 hl.1 2 q1647 q1649 q50 q97 q1650 hv_X8_volumesAt ⟨⟨Nat.le_of_ble_eq_true rfl, Nat.le_of_ble_eq_true rfl⟩, rfl, rfl⟩ pl_modo rfl rfl rfl rfl (Nat.le_of_ble_eq_true rfl) dX8_account_88 ⟨Nat.le_of_ble_eq_true rfl, Nat.le_of_ble_eq_true rfl⟩ rfl (fun H locs X => ?_)
        have h0 := Option.some.inj h0
        obtain ⟨q_0, q_1⟩ := Prod.mk.inj h0
        subst q_0
        subst q_1
        subst hQ
        exact w_lret K hr0 X wM_fstx hsz dX8_account_91
      have h0 := if_f c9 h0
      by_cases c12 : a2 = 2
      · have h0 := if_t c12 h0
        refine lv_tableIn (off := 52) (tgt := 92) hx hb dX8_account_40 (by rw [c12]; decide) (by rw [c12]; decide) (by rw [c12]; decide) (by decide) ?_
        refine lv_aload_n hx hb dX8_account_92 rfl (lv_at hl 0 rfl) ?_
        refine g_modr K X 5 (by decide) (fun _ _ => rfl) q1404 dX8_account_93 ?_
        refine lv_iconst (v := 2) hx hb dX8_account_96 (by decide) ?_
        refine lv_iload_n hx hb dX8_account_97 rfl (lv_at hl 1 rfl) ?_
        refine lv_iadd hx hb dX8_account_98 ?_
        obtain ⟨c13, h0⟩ := if_o h0
        refine a_modl K X 5 5 6 rfl rfl (inb_vp c13) dX8_account_99 ?_
        have h0 := Option.some.inj h0
        obtain ⟨q_0, q_1⟩ := Prod.mk.inj h0
        subst q_0
        subst q_1
        subst hQ
        exact w_lret K hr0 X wM_fstx hsz dX8_account_100
      have h0 := if_f c12 h0
      by_cases c14 : a2 = 3
      · have h0 := if_t c14 h0
        refine lv_tableIn (off := 61) (tgt := 101) hx hb dX8_account_40 (by rw [c14]; decide) (by rw [c14]; decide) (by rw [c14]; decide) (by decide) ?_
        refine lv_aload_n hx hb dX8_account_101 rfl (lv_at hl 0 rfl) ?_
        refine g_modr K X 5 (by decide) (fun _ _ => rfl) q1404 dX8_account_102 ?_
        refine lv_iconst (v := 4) hx hb dX8_account_105 (by decide) ?_
        refine lv_iload_n hx hb dX8_account_106 rfl (lv_at hl 1 rfl) ?_
        refine lv_iadd hx hb dX8_account_107 ?_
        obtain ⟨c15, h0⟩ := if_o h0
        refine a_modl K X 5 5 6 rfl rfl (inb_vp c15) dX8_account_108 ?_
        have h0 := Option.some.inj h0
        obtain ⟨q_0, q_1⟩ := Prod.mk.inj h0
        subst q_0
        subst q_1
        subst hQ
        exact w_lret K hr0 X wM_fstx hsz dX8_account_109
      have h0 := if_f c14 h0
      refine lv_tableOut (tgt := 110) hx hb dX8_account_40 (by have gc7 := lv_neT (a := 0) c7 (by decide); have gc9 := lv_neT (a := 1) c9 (by decide); have gc12 := lv_neT (a := 2) c12 (by decide); have gc14 := lv_neT (a := 3) c14 (by decide); omega) (by decide) ?_
      refine lv_aload_n hx hb dX8_account_110 rfl (lv_at hl 0 rfl) ?_
      refine lv_iload_n hx hb dX8_account_111 rfl (lv_at hl 1 rfl) ?_
      obtain ⟨x16, ex16, h0⟩ := ob_out h0
      have kx16 := m_X8_leftOf l D ca am n Mv5 xs a1 x16 ex16 H.size
      refine w_callV0 K X wM_fstx kx16 hl.1 1 q1706 q1708 q59 q97 q1709 hv_X8_leftOf ⟨⟨Nat.le_of_ble_eq_true rfl, Nat.le_of_ble_eq_true rfl⟩, rfl, rfl⟩ pl_modo rfl rfl rfl rfl (Nat.le_of_ble_eq_true rfl) dX8_account_112 ⟨Nat.le_of_ble_eq_true rfl, Nat.le_of_ble_eq_true rfl⟩ rfl (fun H locs X => ?_)
      have h0 := Option.some.inj h0
      obtain ⟨q_0, q_1⟩ := Prod.mk.inj h0
      subst q_0
      subst q_1
      subst hQ
      exact w_lret K hr0 X wM_fstx hsz dX8_account_115
    · have h0 := if_t c6 h0
      refine lv_lconst (v := 0) hx hb dX8_account_37 (by decide) ?_
      have h0 := Option.some.inj h0
      obtain ⟨q_0, q_1⟩ := Prod.mk.inj h0
      subst q_0
      subst q_1
      subst hQ
      exact w_lret K hr0 X wM_fstx hsz dX8_account_38
  have J29 : ∀ (M_29 : RowS) (H : Heap) (locs : List Loc) (X : RW D (wM am ca M_29 ++ xs) s.heap H locs) (ls : Array Slot) (hl : lv_has ls 3 [(0, .ref (am 0)), (1, .int a1), (2, .int a2)]) (h0 : b_X8_account_29 n a1 a2 M_29 = some (res, M')), W p l e rm_X8_account s m args below meth c H locs 0 0 Q (F0 m 29 ls [.ref (am 0)]) := by
    intro M_29 H locs X ls hl h0
    unfold b_X8_account_29 at h0
    refine lv_iconst (v := 0) hx hb dX8_account_29 (by decide) ?_
    exact J30 0 M_29 H locs X ls (lv_sub hl [0, 1, 2] rfl) h0
  refine lv_aload_n hx hb dX8_account_0 rfl (lv_at hl 0 rfl) ?_
  refine lv_iconst (v := 0) hx hb dX8_account_1 (by decide) ?_
  obtain ⟨Mv1, eMv1, h0⟩ := lt_out h0
  refine p_modi (ty := .int) K X 0 (by decide) (fun _ _ => rfl) (by decide +kernel) ⟨rfl, rfl⟩ eMv1 q1399 dX8_account_2 (fun H locs X => ?_)
  refine lv_aload_n hx hb dX8_account_5 rfl (lv_at hl 0 rfl) ?_
  refine lv_iload_n hx hb dX8_account_6 rfl (lv_at hl 1 rfl) ?_
  obtain ⟨x2, ex2, h0⟩ := lt_out h0
  have kx2 := m_X8_isLeg l D ca (wM am ca Mv1 ++ xs) a1 x2 ex2.symm H.size
  refine w_callS0 K X wM_fstx kx2 hl.1 1 q1697 q1698 q97 q1699 hs_X8_isLeg ⟨⟨Nat.le_of_ble_eq_true rfl, Nat.le_of_ble_eq_true rfl⟩, rfl, rfl⟩ rfl rfl (Nat.le_of_ble_eq_true rfl) dX8_account_7 ⟨Nat.le_of_ble_eq_true rfl, Nat.le_of_ble_eq_true rfl⟩ rfl (fun H locs X => ?_)
  refine w_zeq (tgt := 29) K dX8_account_10 (by decide) (fun c3 => ?_) (fun c3 => ?_)
  · have h0 := if_f c3 h0
    exact J29 Mv1 H locs X ls (lv_sub hl [0, 1, 2] rfl) h0
  · have h0 := if_t c3 h0
    refine lv_iload_n hx hb dX8_account_13 rfl (lv_at hl 2 rfl) ?_
    refine lv_i2l hx hb dX8_account_14 rfl ?_
    refine lv_lconst (v := 0) hx hb dX8_account_15 (by decide) ?_
    refine lv_ldc2 hx hb K.2.2.2.1 (K.2.2.2.2.1 _ q1705) dX8_account_16 ?_
    obtain ⟨x17, ex17, h0⟩ := lt_out h0
    have kx17 := m_X8_in l D ca (wM am ca Mv1 ++ xs) a2.toInt64 0 4 x17 ex17.symm H.size
    refine w_callS0 K X wM_fstx kx17 hl.1 3 q1504 q1505 q97 q1506 hs_X8_in ⟨⟨Nat.le_of_ble_eq_true rfl, Nat.le_of_ble_eq_true rfl⟩, rfl, rfl⟩ rfl rfl (Nat.le_of_ble_eq_true rfl) dX8_account_19 ⟨Nat.le_of_ble_eq_true rfl, Nat.le_of_ble_eq_true rfl⟩ rfl (fun H locs X => ?_)
    refine w_zeq (tgt := 29) K dX8_account_22 (by decide) (fun c18 => ?_) (fun c18 => ?_)
    · have h0 := if_f c18 h0
      exact J29 Mv1 H locs X ls (lv_sub hl [0, 1, 2] rfl) h0
    · have h0 := if_t c18 h0
      refine lv_iconst (v := 1) hx hb dX8_account_25 (by decide) ?_
      refine lv_goto (tgt := 30) hx hb dX8_account_26 (by decide) ?_
      exact J30 1 Mv1 H locs X ls (lv_sub hl [0, 1, 2] rfl) h0
-- X8_tube
def b_X8_tube_31 (n : Nat) (a1 : Int32) (a2 : Int32) (y31_s1 : Int32) (M_31 : RowS) : Option (Int32 × RowS) :=
  lt (f_X8_fails M_31 y31_s1 1) fun x4 =>
  lt (x4.2) fun Mv5 =>
  if x4.1 = true then
    some (0, Mv5)
  else
    if a2 = 7 then
      ob (f_X8_columnOf n Mv5 a1) fun x8 =>
      some (x8, Mv5)
    else if a2 = 8 then
      ob (f_X8_readingOf n Mv5 a1) fun x10 =>
      some (x10, Mv5)
    else if a2 = 9 then
      ob (f_X8_pullOf Mv5 a1) fun x12 =>
      some (x12, Mv5)
    else if a2 = 10 then
      ob (f_X8_meniscusOf Mv5 a1) fun x14 =>
      some (x14, Mv5)
    else ob (f_X8_of Mv5 a1 a2) fun x15 =>
    some (x15, Mv5)
def b_X8_tube_30 (n : Nat) (a1 : Int32) (a2 : Int32) (M_30 : RowS) : Option (Int32 × RowS) :=
  b_X8_tube_31 n a1 a2 0 M_30
def f_X8_tube (n : Nat) (M : RowS) (a1 : Int32) (a2 : Int32) : Option (Int32 × RowS) :=
  lt (si M 0 0 0) fun Mv1 =>
  ob (f_X8_isTube Mv1 a1) fun x2 =>
  if x2 = true then
    lt (f_X8_in a2.toInt64 0 10) fun x16 =>
    if x16 = true then
      b_X8_tube_31 n a1 a2 1 Mv1
    else
      b_X8_tube_30 n a1 a2 Mv1
  else
    b_X8_tube_30 n a1 a2 Mv1
abbrev rm_X8_tube : Room := { frames := 9, cells := 0, slots := 0, locals := 211 }
set_option maxRecDepth 100000 in
set_option maxHeartbeats 4000000 in
theorem m_X8_tube (l : Launch) (D : va_G) (ca : Nat → ClassId) (am : Nat → Nat) (n : Nat) (M : RowS) (xs : va_W) (a1 : Int32) (a2 : Int32) (res : Int32) (M' : RowS) (h0 : f_X8_tube n M a1 a2 = some (res, M')) (sz : Nat) : Met l yX8_tube (ws_ yX8_tube cX8_tube 3 (some .int)) rm_X8_tube (PCw D ca (wM am ca M ++ xs) sz [.ref (am 0), .int a1, .int a2]) (QMw D (wM am ca M ++ xs) (wM am ca (M') ++ xs) sz (some (.int res))) 0 0 (AL (wM am ca M ++ xs) sz) := by
  refine met_of (by decide) (Nat.le_of_ble_eq_true rfl) (fun p e s m args below meth c K hr0 X hsz ls hl => ?_)
  have K : MC D ca p s m args meth c cX8_tube 3 RX8 := K
  have hx := K.1
  have hb := K.2.1
  have hl : lv_has ls 3 [(0, .ref (am 0)), (1, .int a1), (2, .int a2)] := hl
  generalize hQ : MQ below _ args s 0 0 _ = Q
  unfold f_X8_tube at h0
  suffices Z : ∀ (H : Heap) (locs : List Loc) (X : RW D (wM am ca M ++ xs) s.heap H locs), W p l e rm_X8_tube s m args below meth c H locs 0 0 Q (F0 m 0 ls []) from Z _ _ X
  intro H locs X
  have J31 : ∀ (y31_s1 : Int32) (M_31 : RowS) (H : Heap) (locs : List Loc) (X : RW D (wM am ca M_31 ++ xs) s.heap H locs) (ls : Array Slot) (hl : lv_has ls 3 [(0, .ref (am 0)), (1, .int a1), (2, .int a2)]) (h0 : b_X8_tube_31 n a1 a2 y31_s1 M_31 = some (res, M')), W p l e rm_X8_tube s m args below meth c H locs 0 0 Q (F0 m 31 ls [.int y31_s1, .ref (am 0)]) := by
    intro y31_s1 M_31 H locs X ls hl h0
    unfold b_X8_tube_31 at h0
    refine lv_iconst (v := 1) hx hb dX8_tube_31 (by decide) ?_
    obtain ⟨x4, ex4, h0⟩ := lt_out h0
    obtain ⟨Mv5, eMv5, h0⟩ := lt_out h0
    have kx4 := m_X8_fails l D ca am M_31 xs y31_s1 1 x4.1 x4.2 ex4.symm H.size
    rw [← eMv5] at kx4
    refine w_callV0 K X wM_fstx kx4 hl.1 2 q1507 q1509 q22 q97 q1510 hv_X8_fails ⟨⟨Nat.le_of_ble_eq_true rfl, Nat.le_of_ble_eq_true rfl⟩, rfl, rfl⟩ pl_modo rfl rfl rfl rfl (Nat.le_of_ble_eq_true rfl) dX8_tube_32 ⟨Nat.le_of_ble_eq_true rfl, Nat.le_of_ble_eq_true rfl⟩ rfl (fun H locs X => ?_)
    refine w_zeq (tgt := 40) K dX8_tube_35 (by decide) (fun c6 => ?_) (fun c6 => ?_)
    · have h0 := if_f c6 h0
      refine lv_iload_n hx hb dX8_tube_40 rfl (lv_at hl 2 rfl) ?_
      by_cases c7 : a2 = 7
      · have h0 := if_t c7 h0
        refine lv_tableIn (off := 31) (tgt := 72) hx hb dX8_tube_41 (by rw [c7]; decide) (by rw [c7]; decide) (by rw [c7]; decide) (by decide) ?_
        refine lv_aload_n hx hb dX8_tube_72 rfl (lv_at hl 0 rfl) ?_
        refine lv_iload_n hx hb dX8_tube_73 rfl (lv_at hl 1 rfl) ?_
        obtain ⟨x8, ex8, h0⟩ := ob_out h0
        have kx8 := m_X8_columnOf l D ca am n Mv5 xs a1 x8 ex8 H.size
        refine w_callV0 K X wM_fstx kx8 hl.1 1 q1719 q1721 q61 q97 q1722 hv_X8_columnOf ⟨⟨Nat.le_of_ble_eq_true rfl, Nat.le_of_ble_eq_true rfl⟩, rfl, rfl⟩ pl_modo rfl rfl rfl rfl (Nat.le_of_ble_eq_true rfl) dX8_tube_74 ⟨Nat.le_of_ble_eq_true rfl, Nat.le_of_ble_eq_true rfl⟩ rfl (fun H locs X => ?_)
        have h0 := Option.some.inj h0
        obtain ⟨q_0, q_1⟩ := Prod.mk.inj h0
        subst q_0
        subst q_1
        subst hQ
        exact w_iret K hr0 X wM_fstx hsz dX8_tube_77
      have h0 := if_f c7 h0
      by_cases c9 : a2 = 8
      · have h0 := if_t c9 h0
        refine lv_tableIn (off := 37) (tgt := 78) hx hb dX8_tube_41 (by rw [c9]; decide) (by rw [c9]; decide) (by rw [c9]; decide) (by decide) ?_
        refine lv_aload_n hx hb dX8_tube_78 rfl (lv_at hl 0 rfl) ?_
        refine lv_iload_n hx hb dX8_tube_79 rfl (lv_at hl 1 rfl) ?_
        obtain ⟨x10, ex10, h0⟩ := ob_out h0
        have kx10 := m_X8_readingOf l D ca am n Mv5 xs a1 x10 ex10 H.size
        refine w_callV0 K X wM_fstx kx10 hl.1 1 q1723 q1725 q62 q97 q1726 hv_X8_readingOf ⟨⟨Nat.le_of_ble_eq_true rfl, Nat.le_of_ble_eq_true rfl⟩, rfl, rfl⟩ pl_modo rfl rfl rfl rfl (Nat.le_of_ble_eq_true rfl) dX8_tube_80 ⟨Nat.le_of_ble_eq_true rfl, Nat.le_of_ble_eq_true rfl⟩ rfl (fun H locs X => ?_)
        have h0 := Option.some.inj h0
        obtain ⟨q_0, q_1⟩ := Prod.mk.inj h0
        subst q_0
        subst q_1
        subst hQ
        exact w_iret K hr0 X wM_fstx hsz dX8_tube_83
      have h0 := if_f c9 h0
      by_cases c11 : a2 = 9
      · have h0 := if_t c11 h0
        refine lv_tableIn (off := 43) (tgt := 84) hx hb dX8_tube_41 (by rw [c11]; decide) (by rw [c11]; decide) (by rw [c11]; decide) (by decide) ?_
        refine lv_aload_n hx hb dX8_tube_84 rfl (lv_at hl 0 rfl) ?_
        refine lv_iload_n hx hb dX8_tube_85 rfl (lv_at hl 1 rfl) ?_
        obtain ⟨x12, ex12, h0⟩ := ob_out h0
        have kx12 := m_X8_pullOf l D ca am Mv5 xs a1 x12 ex12 H.size
        refine w_callV0 K X wM_fstx kx12 hl.1 1 q1663 q1665 q54 q97 q1666 hv_X8_pullOf ⟨⟨Nat.le_of_ble_eq_true rfl, Nat.le_of_ble_eq_true rfl⟩, rfl, rfl⟩ pl_modo rfl rfl rfl rfl (Nat.le_of_ble_eq_true rfl) dX8_tube_86 ⟨Nat.le_of_ble_eq_true rfl, Nat.le_of_ble_eq_true rfl⟩ rfl (fun H locs X => ?_)
        have h0 := Option.some.inj h0
        obtain ⟨q_0, q_1⟩ := Prod.mk.inj h0
        subst q_0
        subst q_1
        subst hQ
        exact w_iret K hr0 X wM_fstx hsz dX8_tube_89
      have h0 := if_f c11 h0
      by_cases c13 : a2 = 10
      · have h0 := if_t c13 h0
        refine lv_tableIn (off := 49) (tgt := 90) hx hb dX8_tube_41 (by rw [c13]; decide) (by rw [c13]; decide) (by rw [c13]; decide) (by decide) ?_
        refine lv_aload_n hx hb dX8_tube_90 rfl (lv_at hl 0 rfl) ?_
        refine lv_iload_n hx hb dX8_tube_91 rfl (lv_at hl 1 rfl) ?_
        obtain ⟨x14, ex14, h0⟩ := ob_out h0
        have kx14 := m_X8_meniscusOf l D ca am Mv5 xs a1 x14 ex14 H.size
        refine w_callV0 K X wM_fstx kx14 hl.1 1 q1667 q1669 q55 q97 q1670 hv_X8_meniscusOf ⟨⟨Nat.le_of_ble_eq_true rfl, Nat.le_of_ble_eq_true rfl⟩, rfl, rfl⟩ pl_modo rfl rfl rfl rfl (Nat.le_of_ble_eq_true rfl) dX8_tube_92 ⟨Nat.le_of_ble_eq_true rfl, Nat.le_of_ble_eq_true rfl⟩ rfl (fun H locs X => ?_)
        have h0 := Option.some.inj h0
        obtain ⟨q_0, q_1⟩ := Prod.mk.inj h0
        subst q_0
        subst q_1
        subst hQ
        exact w_iret K hr0 X wM_fstx hsz dX8_tube_95
      have h0 := if_f c13 h0
      refine lv_tableOut (tgt := 96) hx hb dX8_tube_41 (by have gc7 := lv_neT (a := 7) c7 (by decide); have gc9 := lv_neT (a := 8) c9 (by decide); have gc11 := lv_neT (a := 9) c11 (by decide); have gc13 := lv_neT (a := 10) c13 (by decide); omega) (by decide) ?_
      refine lv_aload_n hx hb dX8_tube_96 rfl (lv_at hl 0 rfl) ?_
      refine lv_iload_n hx hb dX8_tube_97 rfl (lv_at hl 1 rfl) ?_
      refine lv_iload_n hx hb dX8_tube_98 rfl (lv_at hl 2 rfl) ?_
      obtain ⟨x15, ex15, h0⟩ := ob_out h0
      have kx15 := m_X8_of l D ca am Mv5 xs a1 a2 x15 ex15 H.size
      refine w_callV0 K X wM_fstx kx15 hl.1 2 q1631 q1633 q47 q97 q1634 hv_X8_of ⟨⟨Nat.le_of_ble_eq_true rfl, Nat.le_of_ble_eq_true rfl⟩, rfl, rfl⟩ pl_modo rfl rfl rfl rfl (Nat.le_of_ble_eq_true rfl) dX8_tube_99 ⟨Nat.le_of_ble_eq_true rfl, Nat.le_of_ble_eq_true rfl⟩ rfl (fun H locs X => ?_)
      have h0 := Option.some.inj h0
      obtain ⟨q_0, q_1⟩ := Prod.mk.inj h0
      subst q_0
      subst q_1
      subst hQ
      exact w_iret K hr0 X wM_fstx hsz dX8_tube_102
    · have h0 := if_t c6 h0
      refine lv_iconst (v := 0) hx hb dX8_tube_38 (by decide) ?_
      have h0 := Option.some.inj h0
      obtain ⟨q_0, q_1⟩ := Prod.mk.inj h0
      subst q_0
      subst q_1
      subst hQ
      exact w_iret K hr0 X wM_fstx hsz dX8_tube_39
  have J30 : ∀ (M_30 : RowS) (H : Heap) (locs : List Loc) (X : RW D (wM am ca M_30 ++ xs) s.heap H locs) (ls : Array Slot) (hl : lv_has ls 3 [(0, .ref (am 0)), (1, .int a1), (2, .int a2)]) (h0 : b_X8_tube_30 n a1 a2 M_30 = some (res, M')), W p l e rm_X8_tube s m args below meth c H locs 0 0 Q (F0 m 30 ls [.ref (am 0)]) := by
    intro M_30 H locs X ls hl h0
    unfold b_X8_tube_30 at h0
    refine lv_iconst (v := 0) hx hb dX8_tube_30 (by decide) ?_
    exact J31 0 M_30 H locs X ls (lv_sub hl [0, 1, 2] rfl) h0
  refine lv_aload_n hx hb dX8_tube_0 rfl (lv_at hl 0 rfl) ?_
  refine lv_iconst (v := 0) hx hb dX8_tube_1 (by decide) ?_
  obtain ⟨Mv1, eMv1, h0⟩ := lt_out h0
  refine p_modi (ty := .int) K X 0 (by decide) (fun _ _ => rfl) (by decide +kernel) ⟨rfl, rfl⟩ eMv1 q1399 dX8_tube_2 (fun H locs X => ?_)
  refine lv_aload_n hx hb dX8_tube_5 rfl (lv_at hl 0 rfl) ?_
  refine lv_aload_n hx hb dX8_tube_6 rfl (lv_at hl 0 rfl) ?_
  refine lv_iload_n hx hb dX8_tube_7 rfl (lv_at hl 1 rfl) ?_
  obtain ⟨x2, ex2, h0⟩ := ob_out h0
  have kx2 := m_X8_isTube l D ca am Mv1 xs a1 x2 ex2 H.size
  refine w_callV0 K X wM_fstx kx2 hl.1 1 q1714 q1716 q60 q97 q1717 hv_X8_isTube ⟨⟨Nat.le_of_ble_eq_true rfl, Nat.le_of_ble_eq_true rfl⟩, rfl, rfl⟩ pl_modo rfl rfl rfl rfl (Nat.le_of_ble_eq_true rfl) dX8_tube_8 ⟨Nat.le_of_ble_eq_true rfl, Nat.le_of_ble_eq_true rfl⟩ rfl (fun H locs X => ?_)
  refine w_zeq (tgt := 30) K dX8_tube_11 (by decide) (fun c3 => ?_) (fun c3 => ?_)
  · have h0 := if_f c3 h0
    exact J30 Mv1 H locs X ls (lv_sub hl [0, 1, 2] rfl) h0
  · have h0 := if_t c3 h0
    refine lv_iload_n hx hb dX8_tube_14 rfl (lv_at hl 2 rfl) ?_
    refine lv_i2l hx hb dX8_tube_15 rfl ?_
    refine lv_lconst (v := 0) hx hb dX8_tube_16 (by decide) ?_
    refine lv_ldc2 hx hb K.2.2.2.1 (K.2.2.2.2.1 _ q1718) dX8_tube_17 ?_
    obtain ⟨x16, ex16, h0⟩ := lt_out h0
    have kx16 := m_X8_in l D ca (wM am ca Mv1 ++ xs) a2.toInt64 0 10 x16 ex16.symm H.size
    refine w_callS0 K X wM_fstx kx16 hl.1 3 q1504 q1505 q97 q1506 hs_X8_in ⟨⟨Nat.le_of_ble_eq_true rfl, Nat.le_of_ble_eq_true rfl⟩, rfl, rfl⟩ rfl rfl (Nat.le_of_ble_eq_true rfl) dX8_tube_20 ⟨Nat.le_of_ble_eq_true rfl, Nat.le_of_ble_eq_true rfl⟩ rfl (fun H locs X => ?_)
    refine w_zeq (tgt := 30) K dX8_tube_23 (by decide) (fun c17 => ?_) (fun c17 => ?_)
    · have h0 := if_f c17 h0
      exact J30 Mv1 H locs X ls (lv_sub hl [0, 1, 2] rfl) h0
    · have h0 := if_t c17 h0
      refine lv_iconst (v := 1) hx hb dX8_tube_26 (by decide) ?_
      refine lv_goto (tgt := 31) hx hb dX8_tube_27 (by decide) ?_
      exact J31 1 Mv1 H locs X ls (lv_sub hl [0, 1, 2] rfl) h0
-- X8_told
def f_X8_told (n : Nat) (M : RowS) (a1 : Int32) : Option (Int32 × RowS) :=
  lt (si M 0 0 0) fun Mv1 =>
  ob (f_X8_isTube Mv1 a1) fun x2 =>
  lt (f_X8_fails Mv1 (b2i x2) 1) fun x3 =>
  lt (x3.2) fun Mv4 =>
  if x3.1 = true then
    some (0, Mv4)
  else
    ob (f_X8_isWhole Mv4 a1) fun x6 =>
    if x6 = true then
      ob (f_X8_toldBy n Mv4 a1) fun x8 =>
      some (x8, Mv4)
    else
      some ((-1000000000), Mv4)
abbrev rm_X8_told : Room := { frames := 10, cells := 0, slots := 0, locals := 235 }
set_option maxRecDepth 100000 in
set_option maxHeartbeats 4000000 in
theorem m_X8_told (l : Launch) (D : va_G) (ca : Nat → ClassId) (am : Nat → Nat) (n : Nat) (M : RowS) (xs : va_W) (a1 : Int32) (res : Int32) (M' : RowS) (h0 : f_X8_told n M a1 = some (res, M')) (sz : Nat) : Met l yX8_told (ws_ yX8_told cX8_told 2 (some .int)) rm_X8_told (PCw D ca (wM am ca M ++ xs) sz [.ref (am 0), .int a1]) (QMw D (wM am ca M ++ xs) (wM am ca (M') ++ xs) sz (some (.int res))) 0 0 (AL (wM am ca M ++ xs) sz) := by
  refine met_of (by decide) (Nat.le_of_ble_eq_true rfl) (fun p e s m args below meth c K hr0 X hsz ls hl => ?_)
  have K : MC D ca p s m args meth c cX8_told 2 RX8 := K
  have hx := K.1
  have hb := K.2.1
  have hl : lv_has ls 2 [(0, .ref (am 0)), (1, .int a1)] := hl
  generalize hQ : MQ below _ args s 0 0 _ = Q
  unfold f_X8_told at h0
  suffices Z : ∀ (H : Heap) (locs : List Loc) (X : RW D (wM am ca M ++ xs) s.heap H locs), W p l e rm_X8_told s m args below meth c H locs 0 0 Q (F0 m 0 ls []) from Z _ _ X
  intro H locs X
  refine lv_aload_n hx hb dX8_told_0 rfl (lv_at hl 0 rfl) ?_
  refine lv_iconst (v := 0) hx hb dX8_told_1 (by decide) ?_
  obtain ⟨Mv1, eMv1, h0⟩ := lt_out h0
  refine p_modi (ty := .int) K X 0 (by decide) (fun _ _ => rfl) (by decide +kernel) ⟨rfl, rfl⟩ eMv1 q1399 dX8_told_2 (fun H locs X => ?_)
  refine lv_aload_n hx hb dX8_told_5 rfl (lv_at hl 0 rfl) ?_
  refine lv_aload_n hx hb dX8_told_6 rfl (lv_at hl 0 rfl) ?_
  refine lv_iload_n hx hb dX8_told_7 rfl (lv_at hl 1 rfl) ?_
  obtain ⟨x2, ex2, h0⟩ := ob_out h0
  have kx2 := m_X8_isTube l D ca am Mv1 xs a1 x2 ex2 H.size
  refine w_callV0 K X wM_fstx kx2 hl.1 1 q1714 q1716 q60 q97 q1717 hv_X8_isTube ⟨⟨Nat.le_of_ble_eq_true rfl, Nat.le_of_ble_eq_true rfl⟩, rfl, rfl⟩ pl_modo rfl rfl rfl rfl (Nat.le_of_ble_eq_true rfl) dX8_told_8 ⟨Nat.le_of_ble_eq_true rfl, Nat.le_of_ble_eq_true rfl⟩ rfl (fun H locs X => ?_)
  refine lv_iconst (v := 1) hx hb dX8_told_11 (by decide) ?_
  obtain ⟨x3, ex3, h0⟩ := lt_out h0
  obtain ⟨Mv4, eMv4, h0⟩ := lt_out h0
  have kx3 := m_X8_fails l D ca am Mv1 xs (b2i x2) 1 x3.1 x3.2 ex3.symm H.size
  rw [← eMv4] at kx3
  refine w_callV0 K X wM_fstx kx3 hl.1 2 q1507 q1509 q22 q97 q1510 hv_X8_fails ⟨⟨Nat.le_of_ble_eq_true rfl, Nat.le_of_ble_eq_true rfl⟩, rfl, rfl⟩ pl_modo rfl rfl rfl rfl (Nat.le_of_ble_eq_true rfl) dX8_told_12 ⟨Nat.le_of_ble_eq_true rfl, Nat.le_of_ble_eq_true rfl⟩ rfl (fun H locs X => ?_)
  refine w_zeq (tgt := 20) K dX8_told_15 (by decide) (fun c5 => ?_) (fun c5 => ?_)
  · have h0 := if_f c5 h0
    refine lv_aload_n hx hb dX8_told_20 rfl (lv_at hl 0 rfl) ?_
    refine lv_iload_n hx hb dX8_told_21 rfl (lv_at hl 1 rfl) ?_
    obtain ⟨x6, ex6, h0⟩ := ob_out h0
    have kx6 := m_X8_isWhole l D ca am Mv4 xs a1 x6 ex6 H.size
    refine w_callV0 K X wM_fstx kx6 hl.1 1 q1655 q1657 q52 q97 q1658 hv_X8_isWhole ⟨⟨Nat.le_of_ble_eq_true rfl, Nat.le_of_ble_eq_true rfl⟩, rfl, rfl⟩ pl_modo rfl rfl rfl rfl (Nat.le_of_ble_eq_true rfl) dX8_told_22 ⟨Nat.le_of_ble_eq_true rfl, Nat.le_of_ble_eq_true rfl⟩ rfl (fun H locs X => ?_)
    refine w_zeq (tgt := 36) K dX8_told_25 (by decide) (fun c7 => ?_) (fun c7 => ?_)
    · have h0 := if_f c7 h0
      refine lv_ldcw hx hb K.2.2.2.1 (K.2.2.2.2.1 _ q1739) dX8_told_36 ?_
      have h0 := Option.some.inj h0
      obtain ⟨q_0, q_1⟩ := Prod.mk.inj h0
      subst q_0
      subst q_1
      subst hQ
      exact w_iret K hr0 X wM_fstx hsz dX8_told_39
    · have h0 := if_t c7 h0
      refine lv_aload_n hx hb dX8_told_28 rfl (lv_at hl 0 rfl) ?_
      refine lv_iload_n hx hb dX8_told_29 rfl (lv_at hl 1 rfl) ?_
      obtain ⟨x8, ex8, h0⟩ := ob_out h0
      have kx8 := m_X8_toldBy l D ca am n Mv4 xs a1 x8 ex8 H.size
      refine w_callV0 K X wM_fstx kx8 hl.1 1 q1731 q1733 q63 q97 q1734 hv_X8_toldBy ⟨⟨Nat.le_of_ble_eq_true rfl, Nat.le_of_ble_eq_true rfl⟩, rfl, rfl⟩ pl_modo rfl rfl rfl rfl (Nat.le_of_ble_eq_true rfl) dX8_told_30 ⟨Nat.le_of_ble_eq_true rfl, Nat.le_of_ble_eq_true rfl⟩ rfl (fun H locs X => ?_)
      refine lv_goto (tgt := 39) hx hb dX8_told_33 (by decide) ?_
      have h0 := Option.some.inj h0
      obtain ⟨q_0, q_1⟩ := Prod.mk.inj h0
      subst q_0
      subst q_1
      subst hQ
      exact w_iret K hr0 X wM_fstx hsz dX8_told_39
  · have h0 := if_t c5 h0
    refine lv_iconst (v := 0) hx hb dX8_told_18 (by decide) ?_
    have h0 := Option.some.inj h0
    obtain ⟨q_0, q_1⟩ := Prod.mk.inj h0
    subst q_0
    subst q_1
    subst hQ
    exact w_iret K hr0 X wM_fstx hsz dX8_told_19
-- X8_offOf
def f_X8_offOf (n : Nat) (M : RowS) (a1 : Int32) : Option Int32 :=
  ob (f_X8_toldBy n M a1) fun x1 =>
  ob (f_X8_of M a1 1) fun x2 =>
  if 0 ≤ (4 + x2).toInt ∧ (4 + x2).toInt < 102 then
    some (x1 - (M.1 1 (4 + x2).toNatClampNeg))
  else none
abbrev rm_X8_offOf : Room := { frames := 10, cells := 0, slots := 0, locals := 235 }
set_option maxRecDepth 100000 in
set_option maxHeartbeats 4000000 in
theorem m_X8_offOf (l : Launch) (D : va_G) (ca : Nat → ClassId) (am : Nat → Nat) (n : Nat) (M : RowS) (xs : va_W) (a1 : Int32) (res : Int32) (h0 : f_X8_offOf n M a1 = some res) (sz : Nat) : Met l yX8_offOf (ws_ yX8_offOf cX8_offOf 2 (some .int)) rm_X8_offOf (PCw D ca (wM am ca M ++ xs) sz [.ref (am 0), .int a1]) (QMw D (wM am ca M ++ xs) (wM am ca M ++ xs) sz (some (.int res))) 0 0 (AL (wM am ca M ++ xs) sz) := by
  refine met_of (by decide) (Nat.le_of_ble_eq_true rfl) (fun p e s m args below meth c K hr0 X hsz ls hl => ?_)
  have K : MC D ca p s m args meth c cX8_offOf 2 RX8 := K
  have hx := K.1
  have hb := K.2.1
  have hl : lv_has ls 2 [(0, .ref (am 0)), (1, .int a1)] := hl
  generalize hQ : MQ below _ args s 0 0 _ = Q
  unfold f_X8_offOf at h0
  suffices Z : ∀ (H : Heap) (locs : List Loc) (X : RW D (wM am ca M ++ xs) s.heap H locs), W p l e rm_X8_offOf s m args below meth c H locs 0 0 Q (F0 m 0 ls []) from Z _ _ X
  intro H locs X
  refine lv_aload_n hx hb dX8_offOf_0 rfl (lv_at hl 0 rfl) ?_
  refine lv_iload_n hx hb dX8_offOf_1 rfl (lv_at hl 1 rfl) ?_
  obtain ⟨x1, ex1, h0⟩ := ob_out h0
  have kx1 := m_X8_toldBy l D ca am n M xs a1 x1 ex1 H.size
  refine w_callV0 K X wM_fstx kx1 hl.1 1 q1731 q1733 q63 q97 q1734 hv_X8_toldBy ⟨⟨Nat.le_of_ble_eq_true rfl, Nat.le_of_ble_eq_true rfl⟩, rfl, rfl⟩ pl_modo rfl rfl rfl rfl (Nat.le_of_ble_eq_true rfl) dX8_offOf_2 ⟨Nat.le_of_ble_eq_true rfl, Nat.le_of_ble_eq_true rfl⟩ rfl (fun H locs X => ?_)
  refine lv_aload_n hx hb dX8_offOf_5 rfl (lv_at hl 0 rfl) ?_
  refine g_modr K X 1 (by decide) (fun _ _ => rfl) q1400 dX8_offOf_6 ?_
  refine lv_iconst (v := 4) hx hb dX8_offOf_9 (by decide) ?_
  refine lv_aload_n hx hb dX8_offOf_10 rfl (lv_at hl 0 rfl) ?_
  refine lv_iload_n hx hb dX8_offOf_11 rfl (lv_at hl 1 rfl) ?_
  refine lv_iconst (v := 1) hx hb dX8_offOf_12 (by decide) ?_
  obtain ⟨x2, ex2, h0⟩ := ob_out h0
  have kx2 := m_X8_of l D ca am M xs a1 1 x2 ex2 H.size
  refine w_callV0 K X wM_fstx kx2 hl.1 2 q1631 q1633 q47 q97 q1634 hv_X8_of ⟨⟨Nat.le_of_ble_eq_true rfl, Nat.le_of_ble_eq_true rfl⟩, rfl, rfl⟩ pl_modo rfl rfl rfl rfl (Nat.le_of_ble_eq_true rfl) dX8_offOf_13 ⟨Nat.le_of_ble_eq_true rfl, Nat.le_of_ble_eq_true rfl⟩ rfl (fun H locs X => ?_)
  refine lv_iadd hx hb dX8_offOf_16 ?_
  obtain ⟨c3, h0⟩ := if_o h0
  refine a_modi K X 1 1 102 rfl rfl (inb_vp c3) dX8_offOf_17 ?_
  refine lv_isub hx hb dX8_offOf_18 ?_
  have h0 := Option.some.inj h0
  subst h0
  subst hQ
  exact w_iret K hr0 X wM_fstx hsz dX8_offOf_19
-- X8_off
def f_X8_off (n : Nat) (M : RowS) (a1 : Int32) : Option (Int32 × RowS) :=
  lt (si M 0 0 0) fun Mv1 =>
  ob (f_X8_isTube Mv1 a1) fun x2 =>
  lt (f_X8_fails Mv1 (b2i x2) 1) fun x3 =>
  lt (x3.2) fun Mv4 =>
  if x3.1 = true then
    some (0, Mv4)
  else
    ob (f_X8_isWhole Mv4 a1) fun x6 =>
    if x6 = true then
      ob (f_X8_offOf n Mv4 a1) fun x8 =>
      some (x8, Mv4)
    else
      some ((-1000000000), Mv4)
abbrev rm_X8_off : Room := { frames := 11, cells := 0, slots := 0, locals := 256 }
set_option maxRecDepth 100000 in
set_option maxHeartbeats 4000000 in
theorem m_X8_off (l : Launch) (D : va_G) (ca : Nat → ClassId) (am : Nat → Nat) (n : Nat) (M : RowS) (xs : va_W) (a1 : Int32) (res : Int32) (M' : RowS) (h0 : f_X8_off n M a1 = some (res, M')) (sz : Nat) : Met l yX8_off (ws_ yX8_off cX8_off 2 (some .int)) rm_X8_off (PCw D ca (wM am ca M ++ xs) sz [.ref (am 0), .int a1]) (QMw D (wM am ca M ++ xs) (wM am ca (M') ++ xs) sz (some (.int res))) 0 0 (AL (wM am ca M ++ xs) sz) := by
  refine met_of (by decide) (Nat.le_of_ble_eq_true rfl) (fun p e s m args below meth c K hr0 X hsz ls hl => ?_)
  have K : MC D ca p s m args meth c cX8_off 2 RX8 := K
  have hx := K.1
  have hb := K.2.1
  have hl : lv_has ls 2 [(0, .ref (am 0)), (1, .int a1)] := hl
  generalize hQ : MQ below _ args s 0 0 _ = Q
  unfold f_X8_off at h0
  suffices Z : ∀ (H : Heap) (locs : List Loc) (X : RW D (wM am ca M ++ xs) s.heap H locs), W p l e rm_X8_off s m args below meth c H locs 0 0 Q (F0 m 0 ls []) from Z _ _ X
  intro H locs X
  refine lv_aload_n hx hb dX8_off_0 rfl (lv_at hl 0 rfl) ?_
  refine lv_iconst (v := 0) hx hb dX8_off_1 (by decide) ?_
  obtain ⟨Mv1, eMv1, h0⟩ := lt_out h0
  refine p_modi (ty := .int) K X 0 (by decide) (fun _ _ => rfl) (by decide +kernel) ⟨rfl, rfl⟩ eMv1 q1399 dX8_off_2 (fun H locs X => ?_)
  refine lv_aload_n hx hb dX8_off_5 rfl (lv_at hl 0 rfl) ?_
  refine lv_aload_n hx hb dX8_off_6 rfl (lv_at hl 0 rfl) ?_
  refine lv_iload_n hx hb dX8_off_7 rfl (lv_at hl 1 rfl) ?_
  obtain ⟨x2, ex2, h0⟩ := ob_out h0
  have kx2 := m_X8_isTube l D ca am Mv1 xs a1 x2 ex2 H.size
  refine w_callV0 K X wM_fstx kx2 hl.1 1 q1714 q1716 q60 q97 q1717 hv_X8_isTube ⟨⟨Nat.le_of_ble_eq_true rfl, Nat.le_of_ble_eq_true rfl⟩, rfl, rfl⟩ pl_modo rfl rfl rfl rfl (Nat.le_of_ble_eq_true rfl) dX8_off_8 ⟨Nat.le_of_ble_eq_true rfl, Nat.le_of_ble_eq_true rfl⟩ rfl (fun H locs X => ?_)
  refine lv_iconst (v := 1) hx hb dX8_off_11 (by decide) ?_
  obtain ⟨x3, ex3, h0⟩ := lt_out h0
  obtain ⟨Mv4, eMv4, h0⟩ := lt_out h0
  have kx3 := m_X8_fails l D ca am Mv1 xs (b2i x2) 1 x3.1 x3.2 ex3.symm H.size
  rw [← eMv4] at kx3
  refine w_callV0 K X wM_fstx kx3 hl.1 2 q1507 q1509 q22 q97 q1510 hv_X8_fails ⟨⟨Nat.le_of_ble_eq_true rfl, Nat.le_of_ble_eq_true rfl⟩, rfl, rfl⟩ pl_modo rfl rfl rfl rfl (Nat.le_of_ble_eq_true rfl) dX8_off_12 ⟨Nat.le_of_ble_eq_true rfl, Nat.le_of_ble_eq_true rfl⟩ rfl (fun H locs X => ?_)
  refine w_zeq (tgt := 20) K dX8_off_15 (by decide) (fun c5 => ?_) (fun c5 => ?_)
  · have h0 := if_f c5 h0
    refine lv_aload_n hx hb dX8_off_20 rfl (lv_at hl 0 rfl) ?_
    refine lv_iload_n hx hb dX8_off_21 rfl (lv_at hl 1 rfl) ?_
    obtain ⟨x6, ex6, h0⟩ := ob_out h0
    have kx6 := m_X8_isWhole l D ca am Mv4 xs a1 x6 ex6 H.size
    refine w_callV0 K X wM_fstx kx6 hl.1 1 q1655 q1657 q52 q97 q1658 hv_X8_isWhole ⟨⟨Nat.le_of_ble_eq_true rfl, Nat.le_of_ble_eq_true rfl⟩, rfl, rfl⟩ pl_modo rfl rfl rfl rfl (Nat.le_of_ble_eq_true rfl) dX8_off_22 ⟨Nat.le_of_ble_eq_true rfl, Nat.le_of_ble_eq_true rfl⟩ rfl (fun H locs X => ?_)
    refine w_zeq (tgt := 36) K dX8_off_25 (by decide) (fun c7 => ?_) (fun c7 => ?_)
    · have h0 := if_f c7 h0
      refine lv_ldcw hx hb K.2.2.2.1 (K.2.2.2.2.1 _ q1739) dX8_off_36 ?_
      have h0 := Option.some.inj h0
      obtain ⟨q_0, q_1⟩ := Prod.mk.inj h0
      subst q_0
      subst q_1
      subst hQ
      exact w_iret K hr0 X wM_fstx hsz dX8_off_39
    · have h0 := if_t c7 h0
      refine lv_aload_n hx hb dX8_off_28 rfl (lv_at hl 0 rfl) ?_
      refine lv_iload_n hx hb dX8_off_29 rfl (lv_at hl 1 rfl) ?_
      obtain ⟨x8, ex8, h0⟩ := ob_out h0
      have kx8 := m_X8_offOf l D ca am n Mv4 xs a1 x8 ex8 H.size
      refine w_callV0 K X wM_fstx kx8 hl.1 1 q1744 q1746 q65 q97 q1747 hv_X8_offOf ⟨⟨Nat.le_of_ble_eq_true rfl, Nat.le_of_ble_eq_true rfl⟩, rfl, rfl⟩ pl_modo rfl rfl rfl rfl (Nat.le_of_ble_eq_true rfl) dX8_off_30 ⟨Nat.le_of_ble_eq_true rfl, Nat.le_of_ble_eq_true rfl⟩ rfl (fun H locs X => ?_)
      refine lv_goto (tgt := 39) hx hb dX8_off_33 (by decide) ?_
      have h0 := Option.some.inj h0
      obtain ⟨q_0, q_1⟩ := Prod.mk.inj h0
      subst q_0
      subst q_1
      subst hQ
      exact w_iret K hr0 X wM_fstx hsz dX8_off_39
  · have h0 := if_t c5 h0
    refine lv_iconst (v := 0) hx hb dX8_off_18 (by decide) ?_
    have h0 := Option.some.inj h0
    obtain ⟨q_0, q_1⟩ := Prod.mk.inj h0
    subst q_0
    subst q_1
    subst hQ
    exact w_iret K hr0 X wM_fstx hsz dX8_off_19
-- X8_difference
def b_X8_difference_27 (n : Nat) (a1 : Int32) (a2 : Int32) (y27_s1 : Int32) (M_27 : RowS) : Option (Int32 × RowS) :=
  lt (f_X8_fails M_27 y27_s1 1) fun x4 =>
  lt (x4.2) fun Mv5 =>
  if x4.1 = true then
    some (0, Mv5)
  else
    ob (f_X8_isWhole Mv5 a1) fun x7 =>
    if x7 = true then
      ob (f_X8_isWhole Mv5 a2) fun x9 =>
      if x9 = true then
        ob (f_X8_differenceOf n Mv5 a1 a2) fun x11 =>
        some (x11, Mv5)
      else
        some ((-1000000000), Mv5)
    else
      some ((-1000000000), Mv5)
def b_X8_difference_26 (n : Nat) (a1 : Int32) (a2 : Int32) (M_26 : RowS) : Option (Int32 × RowS) :=
  b_X8_difference_27 n a1 a2 0 M_26
def f_X8_difference (n : Nat) (M : RowS) (a1 : Int32) (a2 : Int32) : Option (Int32 × RowS) :=
  lt (si M 0 0 0) fun Mv1 =>
  ob (f_X8_isTube Mv1 a1) fun x2 =>
  if x2 = true then
    ob (f_X8_isTube Mv1 a2) fun x12 =>
    if x12 = true then
      b_X8_difference_27 n a1 a2 1 Mv1
    else
      b_X8_difference_26 n a1 a2 Mv1
  else
    b_X8_difference_26 n a1 a2 Mv1
abbrev rm_X8_difference : Room := { frames := 11, cells := 0, slots := 0, locals := 259 }
set_option maxRecDepth 100000 in
set_option maxHeartbeats 4000000 in
theorem m_X8_difference (l : Launch) (D : va_G) (ca : Nat → ClassId) (am : Nat → Nat) (n : Nat) (M : RowS) (xs : va_W) (a1 : Int32) (a2 : Int32) (res : Int32) (M' : RowS) (h0 : f_X8_difference n M a1 a2 = some (res, M')) (sz : Nat) : Met l yX8_difference (ws_ yX8_difference cX8_difference 3 (some .int)) rm_X8_difference (PCw D ca (wM am ca M ++ xs) sz [.ref (am 0), .int a1, .int a2]) (QMw D (wM am ca M ++ xs) (wM am ca (M') ++ xs) sz (some (.int res))) 0 0 (AL (wM am ca M ++ xs) sz) := by
  refine met_of (by decide) (Nat.le_of_ble_eq_true rfl) (fun p e s m args below meth c K hr0 X hsz ls hl => ?_)
  have K : MC D ca p s m args meth c cX8_difference 3 RX8 := K
  have hx := K.1
  have hb := K.2.1
  have hl : lv_has ls 3 [(0, .ref (am 0)), (1, .int a1), (2, .int a2)] := hl
  generalize hQ : MQ below _ args s 0 0 _ = Q
  unfold f_X8_difference at h0
  suffices Z : ∀ (H : Heap) (locs : List Loc) (X : RW D (wM am ca M ++ xs) s.heap H locs), W p l e rm_X8_difference s m args below meth c H locs 0 0 Q (F0 m 0 ls []) from Z _ _ X
  intro H locs X
  have J27 : ∀ (y27_s1 : Int32) (M_27 : RowS) (H : Heap) (locs : List Loc) (X : RW D (wM am ca M_27 ++ xs) s.heap H locs) (ls : Array Slot) (hl : lv_has ls 3 [(0, .ref (am 0)), (1, .int a1), (2, .int a2)]) (h0 : b_X8_difference_27 n a1 a2 y27_s1 M_27 = some (res, M')), W p l e rm_X8_difference s m args below meth c H locs 0 0 Q (F0 m 27 ls [.int y27_s1, .ref (am 0)]) := by
    intro y27_s1 M_27 H locs X ls hl h0
    unfold b_X8_difference_27 at h0
    refine lv_iconst (v := 1) hx hb dX8_difference_27 (by decide) ?_
    obtain ⟨x4, ex4, h0⟩ := lt_out h0
    obtain ⟨Mv5, eMv5, h0⟩ := lt_out h0
    have kx4 := m_X8_fails l D ca am M_27 xs y27_s1 1 x4.1 x4.2 ex4.symm H.size
    rw [← eMv5] at kx4
    refine w_callV0 K X wM_fstx kx4 hl.1 2 q1507 q1509 q22 q97 q1510 hv_X8_fails ⟨⟨Nat.le_of_ble_eq_true rfl, Nat.le_of_ble_eq_true rfl⟩, rfl, rfl⟩ pl_modo rfl rfl rfl rfl (Nat.le_of_ble_eq_true rfl) dX8_difference_28 ⟨Nat.le_of_ble_eq_true rfl, Nat.le_of_ble_eq_true rfl⟩ rfl (fun H locs X => ?_)
    refine w_zeq (tgt := 36) K dX8_difference_31 (by decide) (fun c6 => ?_) (fun c6 => ?_)
    · have h0 := if_f c6 h0
      refine lv_aload_n hx hb dX8_difference_36 rfl (lv_at hl 0 rfl) ?_
      refine lv_iload_n hx hb dX8_difference_37 rfl (lv_at hl 1 rfl) ?_
      obtain ⟨x7, ex7, h0⟩ := ob_out h0
      have kx7 := m_X8_isWhole l D ca am Mv5 xs a1 x7 ex7 H.size
      refine w_callV0 K X wM_fstx kx7 hl.1 1 q1655 q1657 q52 q97 q1658 hv_X8_isWhole ⟨⟨Nat.le_of_ble_eq_true rfl, Nat.le_of_ble_eq_true rfl⟩, rfl, rfl⟩ pl_modo rfl rfl rfl rfl (Nat.le_of_ble_eq_true rfl) dX8_difference_38 ⟨Nat.le_of_ble_eq_true rfl, Nat.le_of_ble_eq_true rfl⟩ rfl (fun H locs X => ?_)
      refine w_zeq (tgt := 61) K dX8_difference_41 (by decide) (fun c8 => ?_) (fun c8 => ?_)
      · have h0 := if_f c8 h0
        refine lv_ldcw hx hb K.2.2.2.1 (K.2.2.2.2.1 _ q1739) dX8_difference_61 ?_
        have h0 := Option.some.inj h0
        obtain ⟨q_0, q_1⟩ := Prod.mk.inj h0
        subst q_0
        subst q_1
        subst hQ
        exact w_iret K hr0 X wM_fstx hsz dX8_difference_64
      · have h0 := if_t c8 h0
        refine lv_aload_n hx hb dX8_difference_44 rfl (lv_at hl 0 rfl) ?_
        refine lv_iload_n hx hb dX8_difference_45 rfl (lv_at hl 2 rfl) ?_
        obtain ⟨x9, ex9, h0⟩ := ob_out h0
        have kx9 := m_X8_isWhole l D ca am Mv5 xs a2 x9 ex9 H.size
        refine w_callV0 K X wM_fstx kx9 hl.1 1 q1655 q1657 q52 q97 q1658 hv_X8_isWhole ⟨⟨Nat.le_of_ble_eq_true rfl, Nat.le_of_ble_eq_true rfl⟩, rfl, rfl⟩ pl_modo rfl rfl rfl rfl (Nat.le_of_ble_eq_true rfl) dX8_difference_46 ⟨Nat.le_of_ble_eq_true rfl, Nat.le_of_ble_eq_true rfl⟩ rfl (fun H locs X => ?_)
        refine w_zeq (tgt := 61) K dX8_difference_49 (by decide) (fun c10 => ?_) (fun c10 => ?_)
        · have h0 := if_f c10 h0
          refine lv_ldcw hx hb K.2.2.2.1 (K.2.2.2.2.1 _ q1739) dX8_difference_61 ?_
          have h0 := Option.some.inj h0
          obtain ⟨q_0, q_1⟩ := Prod.mk.inj h0
          subst q_0
          subst q_1
          subst hQ
          exact w_iret K hr0 X wM_fstx hsz dX8_difference_64
        · have h0 := if_t c10 h0
          refine lv_aload_n hx hb dX8_difference_52 rfl (lv_at hl 0 rfl) ?_
          refine lv_iload_n hx hb dX8_difference_53 rfl (lv_at hl 1 rfl) ?_
          refine lv_iload_n hx hb dX8_difference_54 rfl (lv_at hl 2 rfl) ?_
          obtain ⟨x11, ex11, h0⟩ := ob_out h0
          have kx11 := m_X8_differenceOf l D ca am n Mv5 xs a1 a2 x11 ex11 H.size
          refine w_callV0 K X wM_fstx kx11 hl.1 2 q1752 q1754 q66 q97 q1755 hv_X8_differenceOf ⟨⟨Nat.le_of_ble_eq_true rfl, Nat.le_of_ble_eq_true rfl⟩, rfl, rfl⟩ pl_modo rfl rfl rfl rfl (Nat.le_of_ble_eq_true rfl) dX8_difference_55 ⟨Nat.le_of_ble_eq_true rfl, Nat.le_of_ble_eq_true rfl⟩ rfl (fun H locs X => ?_)
          refine lv_goto (tgt := 64) hx hb dX8_difference_58 (by decide) ?_
          have h0 := Option.some.inj h0
          obtain ⟨q_0, q_1⟩ := Prod.mk.inj h0
          subst q_0
          subst q_1
          subst hQ
          exact w_iret K hr0 X wM_fstx hsz dX8_difference_64
    · have h0 := if_t c6 h0
      refine lv_iconst (v := 0) hx hb dX8_difference_34 (by decide) ?_
      have h0 := Option.some.inj h0
      obtain ⟨q_0, q_1⟩ := Prod.mk.inj h0
      subst q_0
      subst q_1
      subst hQ
      exact w_iret K hr0 X wM_fstx hsz dX8_difference_35
  have J26 : ∀ (M_26 : RowS) (H : Heap) (locs : List Loc) (X : RW D (wM am ca M_26 ++ xs) s.heap H locs) (ls : Array Slot) (hl : lv_has ls 3 [(0, .ref (am 0)), (1, .int a1), (2, .int a2)]) (h0 : b_X8_difference_26 n a1 a2 M_26 = some (res, M')), W p l e rm_X8_difference s m args below meth c H locs 0 0 Q (F0 m 26 ls [.ref (am 0)]) := by
    intro M_26 H locs X ls hl h0
    unfold b_X8_difference_26 at h0
    refine lv_iconst (v := 0) hx hb dX8_difference_26 (by decide) ?_
    exact J27 0 M_26 H locs X ls (lv_sub hl [0, 1, 2] rfl) h0
  refine lv_aload_n hx hb dX8_difference_0 rfl (lv_at hl 0 rfl) ?_
  refine lv_iconst (v := 0) hx hb dX8_difference_1 (by decide) ?_
  obtain ⟨Mv1, eMv1, h0⟩ := lt_out h0
  refine p_modi (ty := .int) K X 0 (by decide) (fun _ _ => rfl) (by decide +kernel) ⟨rfl, rfl⟩ eMv1 q1399 dX8_difference_2 (fun H locs X => ?_)
  refine lv_aload_n hx hb dX8_difference_5 rfl (lv_at hl 0 rfl) ?_
  refine lv_aload_n hx hb dX8_difference_6 rfl (lv_at hl 0 rfl) ?_
  refine lv_iload_n hx hb dX8_difference_7 rfl (lv_at hl 1 rfl) ?_
  obtain ⟨x2, ex2, h0⟩ := ob_out h0
  have kx2 := m_X8_isTube l D ca am Mv1 xs a1 x2 ex2 H.size
  refine w_callV0 K X wM_fstx kx2 hl.1 1 q1714 q1716 q60 q97 q1717 hv_X8_isTube ⟨⟨Nat.le_of_ble_eq_true rfl, Nat.le_of_ble_eq_true rfl⟩, rfl, rfl⟩ pl_modo rfl rfl rfl rfl (Nat.le_of_ble_eq_true rfl) dX8_difference_8 ⟨Nat.le_of_ble_eq_true rfl, Nat.le_of_ble_eq_true rfl⟩ rfl (fun H locs X => ?_)
  refine w_zeq (tgt := 26) K dX8_difference_11 (by decide) (fun c3 => ?_) (fun c3 => ?_)
  · have h0 := if_f c3 h0
    exact J26 Mv1 H locs X ls (lv_sub hl [0, 1, 2] rfl) h0
  · have h0 := if_t c3 h0
    refine lv_aload_n hx hb dX8_difference_14 rfl (lv_at hl 0 rfl) ?_
    refine lv_iload_n hx hb dX8_difference_15 rfl (lv_at hl 2 rfl) ?_
    obtain ⟨x12, ex12, h0⟩ := ob_out h0
    have kx12 := m_X8_isTube l D ca am Mv1 xs a2 x12 ex12 H.size
    refine w_callV0 K X wM_fstx kx12 hl.1 1 q1714 q1716 q60 q97 q1717 hv_X8_isTube ⟨⟨Nat.le_of_ble_eq_true rfl, Nat.le_of_ble_eq_true rfl⟩, rfl, rfl⟩ pl_modo rfl rfl rfl rfl (Nat.le_of_ble_eq_true rfl) dX8_difference_16 ⟨Nat.le_of_ble_eq_true rfl, Nat.le_of_ble_eq_true rfl⟩ rfl (fun H locs X => ?_)
    refine w_zeq (tgt := 26) K dX8_difference_19 (by decide) (fun c13 => ?_) (fun c13 => ?_)
    · have h0 := if_f c13 h0
      exact J26 Mv1 H locs X ls (lv_sub hl [0, 1, 2] rfl) h0
    · have h0 := if_t c13 h0
      refine lv_iconst (v := 1) hx hb dX8_difference_22 (by decide) ?_
      refine lv_goto (tgt := 27) hx hb dX8_difference_23 (by decide) ?_
      exact J27 1 Mv1 H locs X ls (lv_sub hl [0, 1, 2] rfl) h0
-- X8_nextWhole
def b_X8_nextWhole_28   : Option Int32 :=
  some (-1)
def l_X8_nextWhole_2 (M : RowS) (z2_2 : Int32) : Option (Int32 ⊕ (Unit ⊕ Int32)) :=
  if 0 ≤ (2 : Int32).toInt ∧ (2 : Int32).toInt < 102 then
    if (M.1 1 (2 : Int32).toNatClampNeg) ≤ z2_2 then
      some (.inr (.inl ()))
    else
      ob (f_X8_isWhole M z2_2) fun x3 =>
      if x3 = true then
        some (.inr (.inr z2_2))
      else
        lt (z2_2 + 1) fun x5 =>
        some (.inl x5)
  else none
def f_X8_nextWhole (n : Nat) (M : RowS) (a1 : Int32) : Option Int32 :=
  ob (wloop (fun t => l_X8_nextWhole_2 M t) n a1) (fun t => match t with | .inl t => b_X8_nextWhole_28 | .inr r => some r)
abbrev rm_X8_nextWhole : Room := { frames := 3, cells := 0, slots := 0, locals := 64 }
set_option maxRecDepth 100000 in
set_option maxHeartbeats 4000000 in
theorem m_X8_nextWhole (l : Launch) (D : va_G) (ca : Nat → ClassId) (am : Nat → Nat) (n : Nat) (M : RowS) (xs : va_W) (a1 : Int32) (res : Int32) (h0 : f_X8_nextWhole n M a1 = some res) (sz : Nat) : Met l yX8_nextWhole (ws_ yX8_nextWhole cX8_nextWhole 3 (some .int)) rm_X8_nextWhole (PCw D ca (wM am ca M ++ xs) sz [.ref (am 0), .int a1]) (QMw D (wM am ca M ++ xs) (wM am ca M ++ xs) sz (some (.int res))) 0 0 (AL (wM am ca M ++ xs) sz) := by
  refine met_of (by decide) (Nat.le_of_ble_eq_true rfl) (fun p e s m args below meth c K hr0 X hsz ls hl => ?_)
  have K : MC D ca p s m args meth c cX8_nextWhole 3 RX8 := K
  have hx := K.1
  have hb := K.2.1
  have hl : lv_has ls 3 [(0, .ref (am 0)), (1, .int a1)] := hl
  generalize hQ : MQ below _ args s 0 0 _ = Q
  unfold f_X8_nextWhole at h0
  suffices Z : ∀ (H : Heap) (locs : List Loc) (X : RW D (wM am ca M ++ xs) s.heap H locs), W p l e rm_X8_nextWhole s m args below meth c H locs 0 0 Q (F0 m 0 ls []) from Z _ _ X
  intro H locs X
  have J28 : ∀  (H : Heap) (locs : List Loc) (X : RW D (wM am ca M ++ xs) s.heap H locs) (ls : Array Slot) (hl : lv_has ls 3 []) (h0 : b_X8_nextWhole_28 = some res), W p l e rm_X8_nextWhole s m args below meth c H locs 0 0 Q (F0 m 28 ls []) := by
    intro  H locs X ls hl h0
    unfold b_X8_nextWhole_28 at h0
    refine lv_iconst (v := (-1)) hx hb dX8_nextWhole_28 (by decide) ?_
    have h0 := Option.some.inj h0
    subst h0
    subst hQ
    exact w_iret K hr0 X wM_fstx hsz dX8_nextWhole_29
  refine lv_iload_n hx hb dX8_nextWhole_0 rfl (lv_at hl 1 rfl) ?_
  refine lv_istore_n (lv' := [(2, .int a1), (0, .ref (am 0)), (1, .int a1)]) hx hb dX8_nextWhole_1 rfl hl (by decide) rfl (fun ls hl => ?_)
  obtain ⟨e_1, he1, h0⟩ := ob_out h0
  have K2 : ∀ (k : Nat) (z2_2 : Int32) (H : Heap) (locs : List Loc) (X : RW D (wM am ca M ++ xs) s.heap H locs) (ls : Array Slot) (hl : lv_has ls 3 [(0, .ref (am 0)), (2, .int z2_2)]) (hw : wloop (fun t => l_X8_nextWhole_2 M t) k z2_2 = some e_1), W p l e rm_X8_nextWhole s m args below meth c H locs 0 0 Q (F0 m 2 ls []) := by
    intro k
    induction k with
    | zero => intro z2_2 H locs X ls hl hw; exact (wloop_0 hw).elim
    | succ k ih1 =>
      intro z2_2 H locs X ls hl hw
      obtain ⟨x_1, h1, hx1⟩ := wloop_out hw
      have h1 : l_X8_nextWhole_2 M z2_2 = some x_1 := h1
      unfold l_X8_nextWhole_2 at h1
      refine lv_iload_n hx hb dX8_nextWhole_2 rfl (lv_at hl 1 rfl) ?_
      refine lv_aload_n hx hb dX8_nextWhole_3 rfl (lv_at hl 0 rfl) ?_
      refine g_modr K X 1 (by decide) (fun _ _ => rfl) q1400 dX8_nextWhole_4 ?_
      refine lv_iconst (v := 2) hx hb dX8_nextWhole_7 (by decide) ?_
      obtain ⟨c1, h1⟩ := if_o h1
      refine a_modi K X 1 1 102 rfl rfl (inb_vp c1) dX8_nextWhole_8 ?_
      refine lv_icmp_ge (tgt := 28) hx hb dX8_nextWhole_9 (by decide) (fun c2 => ?_) (fun c2 => ?_)
      · have h1 := if_t c2 h1
        have q1 := wl_r h1 hx1
        exact J28  H locs X ls (lv_sub hl [] rfl) (by rw [q1] at h0; exact h0)
      · have h1 := if_f c2 h1
        refine lv_aload_n hx hb dX8_nextWhole_12 rfl (lv_at hl 0 rfl) ?_
        refine lv_iload_n hx hb dX8_nextWhole_13 rfl (lv_at hl 1 rfl) ?_
        obtain ⟨x3, ex3, h1⟩ := ob_out h1
        have kx3 := m_X8_isWhole l D ca am M xs z2_2 x3 ex3 H.size
        refine w_callV0 K X wM_fstx kx3 hl.1 1 q1655 q1657 q52 q97 q1658 hv_X8_isWhole ⟨⟨Nat.le_of_ble_eq_true rfl, Nat.le_of_ble_eq_true rfl⟩, rfl, rfl⟩ pl_modo rfl rfl rfl rfl (Nat.le_of_ble_eq_true rfl) dX8_nextWhole_14 ⟨Nat.le_of_ble_eq_true rfl, Nat.le_of_ble_eq_true rfl⟩ rfl (fun H locs X => ?_)
        refine w_zeq (tgt := 22) K dX8_nextWhole_17 (by decide) (fun c4 => ?_) (fun c4 => ?_)
        · have h1 := if_f c4 h1
          obtain ⟨x5, ex5, h1⟩ := lt_out h1
          refine lv_iinc (v := x5) (lv' := [(2, .int x5), (0, .ref (am 0))]) hx hb dX8_nextWhole_22 hl (k := 1) rfl (by rw [ex5]; rfl) (by decide) rfl (fun ls hl => ?_)
          refine lv_goto (tgt := 2) hx hb dX8_nextWhole_25 (by decide) ?_
          exact ih1 x5 H locs X ls (lv_sub hl [1, 0] rfl) (wl_l h1 hx1)
        · have h1 := if_t c4 h1
          refine lv_iload_n hx hb dX8_nextWhole_20 rfl (lv_at hl 1 rfl) ?_
          have q1 := wl_r h1 hx1
          rw [q1] at h0
          have h0 : some z2_2 = some res := h0
          have h0 := Option.some.inj h0
          subst h0
          subst hQ
          exact w_iret K hr0 X wM_fstx hsz dX8_nextWhole_21
  exact K2 n a1 H locs X ls (lv_sub hl [1, 0] rfl) he1
-- X8_ring
def b_X8_ring_63  (y63_l2 : Int32) (M_63 : RowS) : Option (Int32 × RowS) :=
  some (y63_l2, M_63)
def b_X8_ring_50 (n : Nat) (Mv1 : RowS) (y50_l4 : Int32) (y50_s0 : Int32) (y50_s2 : Int32) (y50_s3 : Int32) : Option ((Int32 × Int32) ⊕ Int32) :=
  ob (f_X8_differenceOf n Mv1 y50_s2 y50_s3) fun x7 =>
  lt (y50_s0 + x7) fun x8 =>
  if y50_l4 = (-1) then
    some (.inr x8)
  else
    some (.inl (x8, y50_l4))
def l_X8_ring_26 (n : Nat) (Mv1 : RowS) (x4 : Int32) (z26_2 : Int32) (z26_3 : Int32) : Option ((Int32 × Int32) ⊕ Int32) :=
  ob (f_X8_nextWhole n Mv1 (z26_3 + 1)) fun x5 =>
  if x5 = (-1) then
    b_X8_ring_50 n Mv1 x5 z26_2 z26_3 x4
  else
    b_X8_ring_50 n Mv1 x5 z26_2 z26_3 x5
def f_X8_ring (n : Nat) (M : RowS) : Option (Int32 × RowS) :=
  lt (si M 0 0 0) fun Mv1 =>
  ob (f_X8_many n Mv1 0) fun x2 =>
  if 2 ≤ x2 then
    ob (f_X8_nextWhole n Mv1 0) fun x4 =>
    ob (wloop (fun t => l_X8_ring_26 n Mv1 x4 t.1 t.2) n (0, x4)) (fun t => b_X8_ring_63 t Mv1)
  else
    some (0, Mv1)
abbrev rm_X8_ring : Room := { frames := 11, cells := 0, slots := 0, locals := 259 }
set_option maxRecDepth 100000 in
set_option maxHeartbeats 4000000 in
theorem m_X8_ring (l : Launch) (D : va_G) (ca : Nat → ClassId) (am : Nat → Nat) (n : Nat) (M : RowS) (xs : va_W) (res : Int32) (M' : RowS) (h0 : f_X8_ring n M = some (res, M')) (sz : Nat) : Met l yX8_ring (ws_ yX8_ring cX8_ring 5 (some .int)) rm_X8_ring (PCw D ca (wM am ca M ++ xs) sz [.ref (am 0)]) (QMw D (wM am ca M ++ xs) (wM am ca (M') ++ xs) sz (some (.int res))) 0 0 (AL (wM am ca M ++ xs) sz) := by
  refine met_of (by decide) (Nat.le_of_ble_eq_true rfl) (fun p e s m args below meth c K hr0 X hsz ls hl => ?_)
  have K : MC D ca p s m args meth c cX8_ring 5 RX8 := K
  have hx := K.1
  have hb := K.2.1
  have hl : lv_has ls 5 [(0, .ref (am 0))] := hl
  generalize hQ : MQ below _ args s 0 0 _ = Q
  unfold f_X8_ring at h0
  suffices Z : ∀ (H : Heap) (locs : List Loc) (X : RW D (wM am ca M ++ xs) s.heap H locs), W p l e rm_X8_ring s m args below meth c H locs 0 0 Q (F0 m 0 ls []) from Z _ _ X
  intro H locs X
  have J63 : ∀ (y63_l2 : Int32) (M_63 : RowS) (H : Heap) (locs : List Loc) (X : RW D (wM am ca M_63 ++ xs) s.heap H locs) (ls : Array Slot) (hl : lv_has ls 5 [(2, .int y63_l2)]) (h0 : b_X8_ring_63 y63_l2 M_63 = some (res, M')), W p l e rm_X8_ring s m args below meth c H locs 0 0 Q (F0 m 63 ls []) := by
    intro y63_l2 M_63 H locs X ls hl h0
    unfold b_X8_ring_63 at h0
    refine lv_iload_n hx hb dX8_ring_63 rfl (lv_at hl 0 rfl) ?_
    have h0 := Option.some.inj h0
    obtain ⟨q_0, q_1⟩ := Prod.mk.inj h0
    subst q_0
    subst q_1
    subst hQ
    exact w_iret K hr0 X wM_fstx hsz dX8_ring_64
  refine lv_aload_n hx hb dX8_ring_0 rfl (lv_at hl 0 rfl) ?_
  refine lv_iconst (v := 0) hx hb dX8_ring_1 (by decide) ?_
  obtain ⟨Mv1, eMv1, h0⟩ := lt_out h0
  refine p_modi (ty := .int) K X 0 (by decide) (fun _ _ => rfl) (by decide +kernel) ⟨rfl, rfl⟩ eMv1 q1399 dX8_ring_2 (fun H locs X => ?_)
  refine lv_aload_n hx hb dX8_ring_5 rfl (lv_at hl 0 rfl) ?_
  refine lv_iconst (v := 0) hx hb dX8_ring_6 (by decide) ?_
  obtain ⟨x2, ex2, h0⟩ := ob_out h0
  have kx2 := m_X8_many l D ca am n Mv1 xs 0 x2 ex2 H.size
  refine w_callV0 K X wM_fstx kx2 hl.1 1 q1672 q1674 q56 q97 q1675 hv_X8_many ⟨⟨Nat.le_of_ble_eq_true rfl, Nat.le_of_ble_eq_true rfl⟩, rfl, rfl⟩ pl_modo rfl rfl rfl rfl (Nat.le_of_ble_eq_true rfl) dX8_ring_7 ⟨Nat.le_of_ble_eq_true rfl, Nat.le_of_ble_eq_true rfl⟩ rfl (fun H locs X => ?_)
  refine lv_iconst (v := 2) hx hb dX8_ring_10 (by decide) ?_
  refine lv_icmp_ge (tgt := 16) hx hb dX8_ring_11 (by decide) (fun c3 => ?_) (fun c3 => ?_)
  · have h0 := if_t c3 h0
    refine lv_aload_n hx hb dX8_ring_16 rfl (lv_at hl 0 rfl) ?_
    refine lv_iconst (v := 0) hx hb dX8_ring_17 (by decide) ?_
    obtain ⟨x4, ex4, h0⟩ := ob_out h0
    have kx4 := m_X8_nextWhole l D ca am n Mv1 xs 0 x4 ex4 H.size
    refine w_callV0 K X wM_fstx kx4 hl.1 1 q1760 q1762 q67 q97 q1763 hv_X8_nextWhole ⟨⟨Nat.le_of_ble_eq_true rfl, Nat.le_of_ble_eq_true rfl⟩, rfl, rfl⟩ pl_modo rfl rfl rfl rfl (Nat.le_of_ble_eq_true rfl) dX8_ring_18 ⟨Nat.le_of_ble_eq_true rfl, Nat.le_of_ble_eq_true rfl⟩ rfl (fun H locs X => ?_)
    refine lv_istore_n (lv' := [(1, .int x4), (0, .ref (am 0))]) hx hb dX8_ring_21 rfl hl (by decide) rfl (fun ls hl => ?_)
    refine lv_iconst (v := 0) hx hb dX8_ring_22 (by decide) ?_
    refine lv_istore_n (lv' := [(2, .int 0), (1, .int x4), (0, .ref (am 0))]) hx hb dX8_ring_23 rfl hl (by decide) rfl (fun ls hl => ?_)
    refine lv_iload_n hx hb dX8_ring_24 rfl (lv_at hl 1 rfl) ?_
    refine lv_istore_n (lv' := [(3, .int x4), (2, .int 0), (1, .int x4), (0, .ref (am 0))]) hx hb dX8_ring_25 rfl hl (by decide) rfl (fun ls hl => ?_)
    obtain ⟨e_1, he1, h0⟩ := ob_out h0
    have K26 : ∀ (k : Nat) (z26_2 : Int32) (z26_3 : Int32) (H : Heap) (locs : List Loc) (X : RW D (wM am ca Mv1 ++ xs) s.heap H locs) (ls : Array Slot) (hl : lv_has ls 5 [(0, .ref (am 0)), (1, .int x4), (2, .int z26_2), (3, .int z26_3)]) (hw : wloop (fun t => l_X8_ring_26 n Mv1 x4 t.1 t.2) k (z26_2, z26_3) = some e_1), W p l e rm_X8_ring s m args below meth c H locs 0 0 Q (F0 m 26 ls []) := by
      intro k
      induction k with
      | zero => intro z26_2 z26_3 H locs X ls hl hw; exact (wloop_0 hw).elim
      | succ k ih1 =>
        intro z26_2 z26_3 H locs X ls hl hw
        obtain ⟨x_1, h1, hx1⟩ := wloop_out hw
        have h1 : l_X8_ring_26 n Mv1 x4 z26_2 z26_3 = some x_1 := h1
        unfold l_X8_ring_26 at h1
        have J50 : ∀ (y50_l4 : Int32) (y50_s0 : Int32) (y50_s2 : Int32) (y50_s3 : Int32) (H : Heap) (locs : List Loc) (X : RW D (wM am ca Mv1 ++ xs) s.heap H locs) (ls : Array Slot) (hl : lv_has ls 5 [(0, .ref (am 0)), (1, .int x4), (4, .int y50_l4)]) (h1 : b_X8_ring_50 n Mv1 y50_l4 y50_s0 y50_s2 y50_s3 = some x_1), W p l e rm_X8_ring s m args below meth c H locs 0 0 Q (F0 m 50 ls [.int y50_s3, .int y50_s2, .ref (am 0), .int y50_s0]) := by
          intro y50_l4 y50_s0 y50_s2 y50_s3 H locs X ls hl h1
          unfold b_X8_ring_50 at h1
          obtain ⟨x7, ex7, h1⟩ := ob_out h1
          have kx7 := m_X8_differenceOf l D ca am n Mv1 xs y50_s2 y50_s3 x7 ex7 H.size
          refine w_callV0 K X wM_fstx kx7 hl.1 2 q1752 q1754 q66 q97 q1755 hv_X8_differenceOf ⟨⟨Nat.le_of_ble_eq_true rfl, Nat.le_of_ble_eq_true rfl⟩, rfl, rfl⟩ pl_modo rfl rfl rfl rfl (Nat.le_of_ble_eq_true rfl) dX8_ring_50 ⟨Nat.le_of_ble_eq_true rfl, Nat.le_of_ble_eq_true rfl⟩ rfl (fun H locs X => ?_)
          refine lv_iadd hx hb dX8_ring_53 ?_
          obtain ⟨x8, ex8, h1⟩ := lt_out h1
          refine w_int ex8 ?_
          refine lv_istore_n (lv' := [(2, .int x8), (0, .ref (am 0)), (1, .int x4), (4, .int y50_l4)]) hx hb dX8_ring_54 rfl hl (by decide) rfl (fun ls hl => ?_)
          refine lv_iload hx hb dX8_ring_55 (lv_at hl 3 rfl) ?_
          refine lv_istore_n (lv' := [(3, .int y50_l4), (2, .int x8), (0, .ref (am 0)), (1, .int x4), (4, .int y50_l4)]) hx hb dX8_ring_57 rfl hl (by decide) rfl (fun ls hl => ?_)
          refine lv_iload_n hx hb dX8_ring_58 rfl (lv_at hl 0 rfl) ?_
          refine lv_iconst (v := (-1)) hx hb dX8_ring_59 (by decide) ?_
          refine lv_icmp_ne (tgt := 26) hx hb dX8_ring_60 (by decide) (fun c9 => ?_) (fun c9 => ?_)
          · have h1 := if_f c9 h1
            exact ih1 x8 y50_l4 H locs X ls (lv_sub hl [2, 3, 1, 0] rfl) (wl_l h1 hx1)
          · have h1 := if_t c9 h1
            have q1 := wl_r h1 hx1
            exact J63 x8 Mv1 H locs X ls (lv_sub hl [1] rfl) (by rw [q1] at h0; exact h0)
        refine lv_aload_n hx hb dX8_ring_26 rfl (lv_at hl 0 rfl) ?_
        refine lv_iload_n hx hb dX8_ring_27 rfl (lv_at hl 3 rfl) ?_
        refine lv_iconst (v := 1) hx hb dX8_ring_28 (by decide) ?_
        refine lv_iadd hx hb dX8_ring_29 ?_
        obtain ⟨x5, ex5, h1⟩ := ob_out h1
        have kx5 := m_X8_nextWhole l D ca am n Mv1 xs (z26_3 + 1) x5 ex5 H.size
        refine w_callV0 K X wM_fstx kx5 hl.1 1 q1760 q1762 q67 q97 q1763 hv_X8_nextWhole ⟨⟨Nat.le_of_ble_eq_true rfl, Nat.le_of_ble_eq_true rfl⟩, rfl, rfl⟩ pl_modo rfl rfl rfl rfl (Nat.le_of_ble_eq_true rfl) dX8_ring_30 ⟨Nat.le_of_ble_eq_true rfl, Nat.le_of_ble_eq_true rfl⟩ rfl (fun H locs X => ?_)
        refine lv_istore (lv' := [(4, .int x5), (0, .ref (am 0)), (1, .int x4), (2, .int z26_2), (3, .int z26_3)]) hx hb dX8_ring_33 hl (by decide) rfl (fun ls hl => ?_)
        refine lv_iload_n hx hb dX8_ring_35 rfl (lv_at hl 3 rfl) ?_
        refine lv_aload_n hx hb dX8_ring_36 rfl (lv_at hl 1 rfl) ?_
        refine lv_iload_n hx hb dX8_ring_37 rfl (lv_at hl 4 rfl) ?_
        refine lv_iload hx hb dX8_ring_38 (lv_at hl 0 rfl) ?_
        refine lv_iconst (v := (-1)) hx hb dX8_ring_40 (by decide) ?_
        refine lv_icmp_ne (tgt := 48) hx hb dX8_ring_41 (by decide) (fun c6 => ?_) (fun c6 => ?_)
        · have h1 := if_f c6 h1
          refine lv_iload hx hb dX8_ring_48 (lv_at hl 0 rfl) ?_
          exact J50 x5 z26_2 z26_3 x5 H locs X ls (lv_sub hl [1, 2, 0] rfl) h1
        · have h1 := if_t c6 h1
          refine lv_iload_n hx hb dX8_ring_44 rfl (lv_at hl 2 rfl) ?_
          refine lv_goto (tgt := 50) hx hb dX8_ring_45 (by decide) ?_
          exact J50 x5 z26_2 z26_3 x4 H locs X ls (lv_sub hl [1, 2, 0] rfl) h1
    exact K26 n 0 x4 H locs X ls (lv_sub hl [3, 2, 1, 0] rfl) he1
  · have h0 := if_f c3 h0
    refine lv_iconst (v := 0) hx hb dX8_ring_14 (by decide) ?_
    have h0 := Option.some.inj h0
    obtain ⟨q_0, q_1⟩ := Prod.mk.inj h0
    subst q_0
    subst q_1
    subst hQ
    exact w_iret K hr0 X wM_fstx hsz dX8_ring_15
-- X8_room
def f_X8_room (n : Nat) (M : RowS) (a1 : Int32) : Option (Int32 × RowS) :=
  lt (si M 0 0 0) fun Mv1 =>
  ob (f_X8_isTube Mv1 a1) fun x2 =>
  lt (f_X8_fails Mv1 (b2i x2) 1) fun x3 =>
  lt (x3.2) fun Mv4 =>
  if x3.1 = true then
    some (0, Mv4)
  else
    ob (f_X8_isWhole Mv4 a1) fun x6 =>
    if x6 = true then
      ob (f_X8_fullOf Mv4 a1) fun x8 =>
      ob (f_X8_columnOf n Mv4 a1) fun x9 =>
      some ((x8 - x9), Mv4)
    else
      some ((-1), Mv4)
abbrev rm_X8_room : Room := { frames := 8, cells := 0, slots := 0, locals := 190 }
set_option maxRecDepth 100000 in
set_option maxHeartbeats 4000000 in
theorem m_X8_room (l : Launch) (D : va_G) (ca : Nat → ClassId) (am : Nat → Nat) (n : Nat) (M : RowS) (xs : va_W) (a1 : Int32) (res : Int32) (M' : RowS) (h0 : f_X8_room n M a1 = some (res, M')) (sz : Nat) : Met l yX8_room (ws_ yX8_room cX8_room 2 (some .int)) rm_X8_room (PCw D ca (wM am ca M ++ xs) sz [.ref (am 0), .int a1]) (QMw D (wM am ca M ++ xs) (wM am ca (M') ++ xs) sz (some (.int res))) 0 0 (AL (wM am ca M ++ xs) sz) := by
  refine met_of (by decide) (Nat.le_of_ble_eq_true rfl) (fun p e s m args below meth c K hr0 X hsz ls hl => ?_)
  have K : MC D ca p s m args meth c cX8_room 2 RX8 := K
  have hx := K.1
  have hb := K.2.1
  have hl : lv_has ls 2 [(0, .ref (am 0)), (1, .int a1)] := hl
  generalize hQ : MQ below _ args s 0 0 _ = Q
  unfold f_X8_room at h0
  suffices Z : ∀ (H : Heap) (locs : List Loc) (X : RW D (wM am ca M ++ xs) s.heap H locs), W p l e rm_X8_room s m args below meth c H locs 0 0 Q (F0 m 0 ls []) from Z _ _ X
  intro H locs X
  refine lv_aload_n hx hb dX8_room_0 rfl (lv_at hl 0 rfl) ?_
  refine lv_iconst (v := 0) hx hb dX8_room_1 (by decide) ?_
  obtain ⟨Mv1, eMv1, h0⟩ := lt_out h0
  refine p_modi (ty := .int) K X 0 (by decide) (fun _ _ => rfl) (by decide +kernel) ⟨rfl, rfl⟩ eMv1 q1399 dX8_room_2 (fun H locs X => ?_)
  refine lv_aload_n hx hb dX8_room_5 rfl (lv_at hl 0 rfl) ?_
  refine lv_aload_n hx hb dX8_room_6 rfl (lv_at hl 0 rfl) ?_
  refine lv_iload_n hx hb dX8_room_7 rfl (lv_at hl 1 rfl) ?_
  obtain ⟨x2, ex2, h0⟩ := ob_out h0
  have kx2 := m_X8_isTube l D ca am Mv1 xs a1 x2 ex2 H.size
  refine w_callV0 K X wM_fstx kx2 hl.1 1 q1714 q1716 q60 q97 q1717 hv_X8_isTube ⟨⟨Nat.le_of_ble_eq_true rfl, Nat.le_of_ble_eq_true rfl⟩, rfl, rfl⟩ pl_modo rfl rfl rfl rfl (Nat.le_of_ble_eq_true rfl) dX8_room_8 ⟨Nat.le_of_ble_eq_true rfl, Nat.le_of_ble_eq_true rfl⟩ rfl (fun H locs X => ?_)
  refine lv_iconst (v := 1) hx hb dX8_room_11 (by decide) ?_
  obtain ⟨x3, ex3, h0⟩ := lt_out h0
  obtain ⟨Mv4, eMv4, h0⟩ := lt_out h0
  have kx3 := m_X8_fails l D ca am Mv1 xs (b2i x2) 1 x3.1 x3.2 ex3.symm H.size
  rw [← eMv4] at kx3
  refine w_callV0 K X wM_fstx kx3 hl.1 2 q1507 q1509 q22 q97 q1510 hv_X8_fails ⟨⟨Nat.le_of_ble_eq_true rfl, Nat.le_of_ble_eq_true rfl⟩, rfl, rfl⟩ pl_modo rfl rfl rfl rfl (Nat.le_of_ble_eq_true rfl) dX8_room_12 ⟨Nat.le_of_ble_eq_true rfl, Nat.le_of_ble_eq_true rfl⟩ rfl (fun H locs X => ?_)
  refine w_zeq (tgt := 20) K dX8_room_15 (by decide) (fun c5 => ?_) (fun c5 => ?_)
  · have h0 := if_f c5 h0
    refine lv_aload_n hx hb dX8_room_20 rfl (lv_at hl 0 rfl) ?_
    refine lv_iload_n hx hb dX8_room_21 rfl (lv_at hl 1 rfl) ?_
    obtain ⟨x6, ex6, h0⟩ := ob_out h0
    have kx6 := m_X8_isWhole l D ca am Mv4 xs a1 x6 ex6 H.size
    refine w_callV0 K X wM_fstx kx6 hl.1 1 q1655 q1657 q52 q97 q1658 hv_X8_isWhole ⟨⟨Nat.le_of_ble_eq_true rfl, Nat.le_of_ble_eq_true rfl⟩, rfl, rfl⟩ pl_modo rfl rfl rfl rfl (Nat.le_of_ble_eq_true rfl) dX8_room_22 ⟨Nat.le_of_ble_eq_true rfl, Nat.le_of_ble_eq_true rfl⟩ rfl (fun H locs X => ?_)
    refine w_zeq (tgt := 42) K dX8_room_25 (by decide) (fun c7 => ?_) (fun c7 => ?_)
    · have h0 := if_f c7 h0
      refine lv_iconst (v := (-1)) hx hb dX8_room_42 (by decide) ?_
      have h0 := Option.some.inj h0
      obtain ⟨q_0, q_1⟩ := Prod.mk.inj h0
      subst q_0
      subst q_1
      subst hQ
      exact w_iret K hr0 X wM_fstx hsz dX8_room_43
    · have h0 := if_t c7 h0
      refine lv_aload_n hx hb dX8_room_28 rfl (lv_at hl 0 rfl) ?_
      refine lv_iload_n hx hb dX8_room_29 rfl (lv_at hl 1 rfl) ?_
      obtain ⟨x8, ex8, h0⟩ := ob_out h0
      have kx8 := m_X8_fullOf l D ca am Mv4 xs a1 x8 ex8 H.size
      refine w_callV0 K X wM_fstx kx8 hl.1 1 q1635 q1637 q48 q97 q1638 hv_X8_fullOf ⟨⟨Nat.le_of_ble_eq_true rfl, Nat.le_of_ble_eq_true rfl⟩, rfl, rfl⟩ pl_modo rfl rfl rfl rfl (Nat.le_of_ble_eq_true rfl) dX8_room_30 ⟨Nat.le_of_ble_eq_true rfl, Nat.le_of_ble_eq_true rfl⟩ rfl (fun H locs X => ?_)
      refine lv_aload_n hx hb dX8_room_33 rfl (lv_at hl 0 rfl) ?_
      refine lv_iload_n hx hb dX8_room_34 rfl (lv_at hl 1 rfl) ?_
      obtain ⟨x9, ex9, h0⟩ := ob_out h0
      have kx9 := m_X8_columnOf l D ca am n Mv4 xs a1 x9 ex9 H.size
      refine w_callV0 K X wM_fstx kx9 hl.1 1 q1719 q1721 q61 q97 q1722 hv_X8_columnOf ⟨⟨Nat.le_of_ble_eq_true rfl, Nat.le_of_ble_eq_true rfl⟩, rfl, rfl⟩ pl_modo rfl rfl rfl rfl (Nat.le_of_ble_eq_true rfl) dX8_room_35 ⟨Nat.le_of_ble_eq_true rfl, Nat.le_of_ble_eq_true rfl⟩ rfl (fun H locs X => ?_)
      refine lv_isub hx hb dX8_room_38 ?_
      refine lv_goto (tgt := 43) hx hb dX8_room_39 (by decide) ?_
      have h0 := Option.some.inj h0
      obtain ⟨q_0, q_1⟩ := Prod.mk.inj h0
      subst q_0
      subst q_1
      subst hQ
      exact w_iret K hr0 X wM_fstx hsz dX8_room_43
  · have h0 := if_t c5 h0
    refine lv_iconst (v := 0) hx hb dX8_room_18 (by decide) ?_
    have h0 := Option.some.inj h0
    obtain ⟨q_0, q_1⟩ := Prod.mk.inj h0
    subst q_0
    subst q_1
    subst hQ
    exact w_iret K hr0 X wM_fstx hsz dX8_room_19
-- X8_longest
def b_X8_longest_53  (y53_l1 : Int32) (M_53 : RowS) : Option (Int32 × RowS) :=
  some (y53_l1, M_53)
def b_X8_longest_47  (y47_l1 : Int32) (y47_l2 : Int32) : Option ((Int32 × Int32) ⊕ Int32) :=
  lt (y47_l2 + 1) fun x6 =>
  some (.inl (y47_l1, x6))
def b_X8_longest_45  (y45_l2 : Int32) : Option ((Int32 × Int32) ⊕ Int32) :=
  b_X8_longest_47 y45_l2 y45_l2
def l_X8_longest_9 (n : Nat) (Mv1 : RowS) (z9_1 : Int32) (z9_2 : Int32) : Option ((Int32 × Int32) ⊕ Int32) :=
  if 0 ≤ (2 : Int32).toInt ∧ (2 : Int32).toInt < 102 then
    if (Mv1.1 1 (2 : Int32).toNatClampNeg) ≤ z9_2 then
      some (.inr z9_1)
    else
      ob (f_X8_isWhole Mv1 z9_2) fun x4 =>
      if x4 = true then
        if z9_1 = (-1) then
          b_X8_longest_45 z9_2
        else
          ob (f_X8_columnOf n Mv1 z9_2) fun x8 =>
          ob (f_X8_columnOf n Mv1 z9_1) fun x9 =>
          if x8 ≤ x9 then
            b_X8_longest_47 z9_1 z9_2
          else
            b_X8_longest_45 z9_2
      else
        b_X8_longest_47 z9_1 z9_2
  else none
def f_X8_longest (n : Nat) (M : RowS) : Option (Int32 × RowS) :=
  lt (si M 0 0 0) fun Mv1 =>
  ob (wloop (fun t => l_X8_longest_9 n Mv1 t.1 t.2) n ((-1), 0)) (fun t => b_X8_longest_53 t Mv1)
abbrev rm_X8_longest : Room := { frames := 8, cells := 0, slots := 0, locals := 190 }
set_option maxRecDepth 100000 in
set_option maxHeartbeats 4000000 in
theorem m_X8_longest (l : Launch) (D : va_G) (ca : Nat → ClassId) (am : Nat → Nat) (n : Nat) (M : RowS) (xs : va_W) (res : Int32) (M' : RowS) (h0 : f_X8_longest n M = some (res, M')) (sz : Nat) : Met l yX8_longest (ws_ yX8_longest cX8_longest 3 (some .int)) rm_X8_longest (PCw D ca (wM am ca M ++ xs) sz [.ref (am 0)]) (QMw D (wM am ca M ++ xs) (wM am ca (M') ++ xs) sz (some (.int res))) 0 0 (AL (wM am ca M ++ xs) sz) := by
  refine met_of (by decide) (Nat.le_of_ble_eq_true rfl) (fun p e s m args below meth c K hr0 X hsz ls hl => ?_)
  have K : MC D ca p s m args meth c cX8_longest 3 RX8 := K
  have hx := K.1
  have hb := K.2.1
  have hl : lv_has ls 3 [(0, .ref (am 0))] := hl
  generalize hQ : MQ below _ args s 0 0 _ = Q
  unfold f_X8_longest at h0
  suffices Z : ∀ (H : Heap) (locs : List Loc) (X : RW D (wM am ca M ++ xs) s.heap H locs), W p l e rm_X8_longest s m args below meth c H locs 0 0 Q (F0 m 0 ls []) from Z _ _ X
  intro H locs X
  have J53 : ∀ (y53_l1 : Int32) (M_53 : RowS) (H : Heap) (locs : List Loc) (X : RW D (wM am ca M_53 ++ xs) s.heap H locs) (ls : Array Slot) (hl : lv_has ls 3 [(1, .int y53_l1)]) (h0 : b_X8_longest_53 y53_l1 M_53 = some (res, M')), W p l e rm_X8_longest s m args below meth c H locs 0 0 Q (F0 m 53 ls []) := by
    intro y53_l1 M_53 H locs X ls hl h0
    unfold b_X8_longest_53 at h0
    refine lv_iload_n hx hb dX8_longest_53 rfl (lv_at hl 0 rfl) ?_
    have h0 := Option.some.inj h0
    obtain ⟨q_0, q_1⟩ := Prod.mk.inj h0
    subst q_0
    subst q_1
    subst hQ
    exact w_iret K hr0 X wM_fstx hsz dX8_longest_54
  refine lv_aload_n hx hb dX8_longest_0 rfl (lv_at hl 0 rfl) ?_
  refine lv_iconst (v := 0) hx hb dX8_longest_1 (by decide) ?_
  obtain ⟨Mv1, eMv1, h0⟩ := lt_out h0
  refine p_modi (ty := .int) K X 0 (by decide) (fun _ _ => rfl) (by decide +kernel) ⟨rfl, rfl⟩ eMv1 q1399 dX8_longest_2 (fun H locs X => ?_)
  refine lv_iconst (v := (-1)) hx hb dX8_longest_5 (by decide) ?_
  refine lv_istore_n (lv' := [(1, .int (-1)), (0, .ref (am 0))]) hx hb dX8_longest_6 rfl hl (by decide) rfl (fun ls hl => ?_)
  refine lv_iconst (v := 0) hx hb dX8_longest_7 (by decide) ?_
  refine lv_istore_n (lv' := [(2, .int 0), (1, .int (-1)), (0, .ref (am 0))]) hx hb dX8_longest_8 rfl hl (by decide) rfl (fun ls hl => ?_)
  obtain ⟨e_1, he1, h0⟩ := ob_out h0
  have K9 : ∀ (k : Nat) (z9_1 : Int32) (z9_2 : Int32) (H : Heap) (locs : List Loc) (X : RW D (wM am ca Mv1 ++ xs) s.heap H locs) (ls : Array Slot) (hl : lv_has ls 3 [(0, .ref (am 0)), (1, .int z9_1), (2, .int z9_2)]) (hw : wloop (fun t => l_X8_longest_9 n Mv1 t.1 t.2) k (z9_1, z9_2) = some e_1), W p l e rm_X8_longest s m args below meth c H locs 0 0 Q (F0 m 9 ls []) := by
    intro k
    induction k with
    | zero => intro z9_1 z9_2 H locs X ls hl hw; exact (wloop_0 hw).elim
    | succ k ih1 =>
      intro z9_1 z9_2 H locs X ls hl hw
      obtain ⟨x_1, h1, hx1⟩ := wloop_out hw
      have h1 : l_X8_longest_9 n Mv1 z9_1 z9_2 = some x_1 := h1
      unfold l_X8_longest_9 at h1
      have J47 : ∀ (y47_l1 : Int32) (y47_l2 : Int32) (H : Heap) (locs : List Loc) (X : RW D (wM am ca Mv1 ++ xs) s.heap H locs) (ls : Array Slot) (hl : lv_has ls 3 [(0, .ref (am 0)), (1, .int y47_l1), (2, .int y47_l2)]) (h1 : b_X8_longest_47 y47_l1 y47_l2 = some x_1), W p l e rm_X8_longest s m args below meth c H locs 0 0 Q (F0 m 47 ls []) := by
        intro y47_l1 y47_l2 H locs X ls hl h1
        unfold b_X8_longest_47 at h1
        obtain ⟨x6, ex6, h1⟩ := lt_out h1
        refine lv_iinc (v := x6) (lv' := [(2, .int x6), (0, .ref (am 0)), (1, .int y47_l1)]) hx hb dX8_longest_47 hl (k := 2) rfl (by rw [ex6]; rfl) (by decide) rfl (fun ls hl => ?_)
        refine lv_goto (tgt := 9) hx hb dX8_longest_50 (by decide) ?_
        exact ih1 y47_l1 x6 H locs X ls (lv_sub hl [1, 2, 0] rfl) (wl_l h1 hx1)
      have J45 : ∀ (y45_l2 : Int32) (H : Heap) (locs : List Loc) (X : RW D (wM am ca Mv1 ++ xs) s.heap H locs) (ls : Array Slot) (hl : lv_has ls 3 [(0, .ref (am 0)), (2, .int y45_l2)]) (h1 : b_X8_longest_45 y45_l2 = some x_1), W p l e rm_X8_longest s m args below meth c H locs 0 0 Q (F0 m 45 ls []) := by
        intro y45_l2 H locs X ls hl h1
        unfold b_X8_longest_45 at h1
        refine lv_iload_n hx hb dX8_longest_45 rfl (lv_at hl 1 rfl) ?_
        refine lv_istore_n (lv' := [(1, .int y45_l2), (0, .ref (am 0)), (2, .int y45_l2)]) hx hb dX8_longest_46 rfl hl (by decide) rfl (fun ls hl => ?_)
        exact J47 y45_l2 y45_l2 H locs X ls (lv_sub hl [1, 0, 2] rfl) h1
      refine lv_iload_n hx hb dX8_longest_9 rfl (lv_at hl 2 rfl) ?_
      refine lv_aload_n hx hb dX8_longest_10 rfl (lv_at hl 0 rfl) ?_
      refine g_modr K X 1 (by decide) (fun _ _ => rfl) q1400 dX8_longest_11 ?_
      refine lv_iconst (v := 2) hx hb dX8_longest_14 (by decide) ?_
      obtain ⟨c2, h1⟩ := if_o h1
      refine a_modi K X 1 1 102 rfl rfl (inb_vp c2) dX8_longest_15 ?_
      refine lv_icmp_ge (tgt := 53) hx hb dX8_longest_16 (by decide) (fun c3 => ?_) (fun c3 => ?_)
      · have h1 := if_t c3 h1
        have q1 := wl_r h1 hx1
        exact J53 z9_1 Mv1 H locs X ls (lv_sub hl [1] rfl) (by rw [q1] at h0; exact h0)
      · have h1 := if_f c3 h1
        refine lv_aload_n hx hb dX8_longest_19 rfl (lv_at hl 0 rfl) ?_
        refine lv_iload_n hx hb dX8_longest_20 rfl (lv_at hl 2 rfl) ?_
        obtain ⟨x4, ex4, h1⟩ := ob_out h1
        have kx4 := m_X8_isWhole l D ca am Mv1 xs z9_2 x4 ex4 H.size
        refine w_callV0 K X wM_fstx kx4 hl.1 1 q1655 q1657 q52 q97 q1658 hv_X8_isWhole ⟨⟨Nat.le_of_ble_eq_true rfl, Nat.le_of_ble_eq_true rfl⟩, rfl, rfl⟩ pl_modo rfl rfl rfl rfl (Nat.le_of_ble_eq_true rfl) dX8_longest_21 ⟨Nat.le_of_ble_eq_true rfl, Nat.le_of_ble_eq_true rfl⟩ rfl (fun H locs X => ?_)
        refine w_zeq (tgt := 47) K dX8_longest_24 (by decide) (fun c5 => ?_) (fun c5 => ?_)
        · have h1 := if_f c5 h1
          exact J47 z9_1 z9_2 H locs X ls (lv_sub hl [0, 1, 2] rfl) h1
        · have h1 := if_t c5 h1
          refine lv_iload_n hx hb dX8_longest_27 rfl (lv_at hl 1 rfl) ?_
          refine lv_iconst (v := (-1)) hx hb dX8_longest_28 (by decide) ?_
          refine lv_icmp_eq (tgt := 45) hx hb dX8_longest_29 (by decide) (fun c7 => ?_) (fun c7 => ?_)
          · have h1 := if_t c7 h1
            exact J45 z9_2 H locs X ls (lv_sub hl [0, 2] rfl) h1
          · have h1 := if_f c7 h1
            refine lv_aload_n hx hb dX8_longest_32 rfl (lv_at hl 0 rfl) ?_
            refine lv_iload_n hx hb dX8_longest_33 rfl (lv_at hl 2 rfl) ?_
            obtain ⟨x8, ex8, h1⟩ := ob_out h1
            have kx8 := m_X8_columnOf l D ca am n Mv1 xs z9_2 x8 ex8 H.size
            refine w_callV0 K X wM_fstx kx8 hl.1 1 q1719 q1721 q61 q97 q1722 hv_X8_columnOf ⟨⟨Nat.le_of_ble_eq_true rfl, Nat.le_of_ble_eq_true rfl⟩, rfl, rfl⟩ pl_modo rfl rfl rfl rfl (Nat.le_of_ble_eq_true rfl) dX8_longest_34 ⟨Nat.le_of_ble_eq_true rfl, Nat.le_of_ble_eq_true rfl⟩ rfl (fun H locs X => ?_)
            refine lv_aload_n hx hb dX8_longest_37 rfl (lv_at hl 0 rfl) ?_
            refine lv_iload_n hx hb dX8_longest_38 rfl (lv_at hl 1 rfl) ?_
            obtain ⟨x9, ex9, h1⟩ := ob_out h1
            have kx9 := m_X8_columnOf l D ca am n Mv1 xs z9_1 x9 ex9 H.size
            refine w_callV0 K X wM_fstx kx9 hl.1 1 q1719 q1721 q61 q97 q1722 hv_X8_columnOf ⟨⟨Nat.le_of_ble_eq_true rfl, Nat.le_of_ble_eq_true rfl⟩, rfl, rfl⟩ pl_modo rfl rfl rfl rfl (Nat.le_of_ble_eq_true rfl) dX8_longest_39 ⟨Nat.le_of_ble_eq_true rfl, Nat.le_of_ble_eq_true rfl⟩ rfl (fun H locs X => ?_)
            refine lv_icmp_le (tgt := 47) hx hb dX8_longest_42 (by decide) (fun c10 => ?_) (fun c10 => ?_)
            · have h1 := if_t c10 h1
              exact J47 z9_1 z9_2 H locs X ls (lv_sub hl [0, 1, 2] rfl) h1
            · have h1 := if_f c10 h1
              exact J45 z9_2 H locs X ls (lv_sub hl [0, 2] rfl) h1
  exact K9 n (-1) 0 H locs X ls (lv_sub hl [2, 1, 0] rfl) he1
-- X8_worst
def b_X8_worst_59  (y59_l1 : Int32) (M_59 : RowS) : Option (Int32 × RowS) :=
  some (y59_l1, M_59)
def b_X8_worst_53  (y53_l1 : Int32) (y53_l2 : Int32) : Option ((Int32 × Int32) ⊕ Int32) :=
  lt (y53_l2 + 1) fun x6 =>
  some (.inl (y53_l1, x6))
def b_X8_worst_51  (y51_l2 : Int32) : Option ((Int32 × Int32) ⊕ Int32) :=
  b_X8_worst_53 y51_l2 y51_l2
def l_X8_worst_9 (n : Nat) (Mv1 : RowS) (z9_1 : Int32) (z9_2 : Int32) : Option ((Int32 × Int32) ⊕ Int32) :=
  if 0 ≤ (2 : Int32).toInt ∧ (2 : Int32).toInt < 102 then
    if (Mv1.1 1 (2 : Int32).toNatClampNeg) ≤ z9_2 then
      some (.inr z9_1)
    else
      ob (f_X8_isWhole Mv1 z9_2) fun x4 =>
      if x4 = true then
        if z9_1 = (-1) then
          b_X8_worst_51 z9_2
        else
          ob (f_X8_offOf n Mv1 z9_2) fun x8 =>
          lt (f_X8_off0 x8) fun x9 =>
          ob (f_X8_offOf n Mv1 z9_1) fun x10 =>
          lt (f_X8_off0 x10) fun x11 =>
          if x9 ≤ x11 then
            b_X8_worst_53 z9_1 z9_2
          else
            b_X8_worst_51 z9_2
      else
        b_X8_worst_53 z9_1 z9_2
  else none
def f_X8_worst (n : Nat) (M : RowS) : Option (Int32 × RowS) :=
  lt (si M 0 0 0) fun Mv1 =>
  ob (wloop (fun t => l_X8_worst_9 n Mv1 t.1 t.2) n ((-1), 0)) (fun t => b_X8_worst_59 t Mv1)
abbrev rm_X8_worst : Room := { frames := 11, cells := 0, slots := 0, locals := 256 }
set_option maxRecDepth 100000 in
set_option maxHeartbeats 4000000 in
theorem m_X8_worst (l : Launch) (D : va_G) (ca : Nat → ClassId) (am : Nat → Nat) (n : Nat) (M : RowS) (xs : va_W) (res : Int32) (M' : RowS) (h0 : f_X8_worst n M = some (res, M')) (sz : Nat) : Met l yX8_worst (ws_ yX8_worst cX8_worst 3 (some .int)) rm_X8_worst (PCw D ca (wM am ca M ++ xs) sz [.ref (am 0)]) (QMw D (wM am ca M ++ xs) (wM am ca (M') ++ xs) sz (some (.int res))) 0 0 (AL (wM am ca M ++ xs) sz) := by
  refine met_of (by decide) (Nat.le_of_ble_eq_true rfl) (fun p e s m args below meth c K hr0 X hsz ls hl => ?_)
  have K : MC D ca p s m args meth c cX8_worst 3 RX8 := K
  have hx := K.1
  have hb := K.2.1
  have hl : lv_has ls 3 [(0, .ref (am 0))] := hl
  generalize hQ : MQ below _ args s 0 0 _ = Q
  unfold f_X8_worst at h0
  suffices Z : ∀ (H : Heap) (locs : List Loc) (X : RW D (wM am ca M ++ xs) s.heap H locs), W p l e rm_X8_worst s m args below meth c H locs 0 0 Q (F0 m 0 ls []) from Z _ _ X
  intro H locs X
  have J59 : ∀ (y59_l1 : Int32) (M_59 : RowS) (H : Heap) (locs : List Loc) (X : RW D (wM am ca M_59 ++ xs) s.heap H locs) (ls : Array Slot) (hl : lv_has ls 3 [(1, .int y59_l1)]) (h0 : b_X8_worst_59 y59_l1 M_59 = some (res, M')), W p l e rm_X8_worst s m args below meth c H locs 0 0 Q (F0 m 59 ls []) := by
    intro y59_l1 M_59 H locs X ls hl h0
    unfold b_X8_worst_59 at h0
    refine lv_iload_n hx hb dX8_worst_59 rfl (lv_at hl 0 rfl) ?_
    have h0 := Option.some.inj h0
    obtain ⟨q_0, q_1⟩ := Prod.mk.inj h0
    subst q_0
    subst q_1
    subst hQ
    exact w_iret K hr0 X wM_fstx hsz dX8_worst_60
  refine lv_aload_n hx hb dX8_worst_0 rfl (lv_at hl 0 rfl) ?_
  refine lv_iconst (v := 0) hx hb dX8_worst_1 (by decide) ?_
  obtain ⟨Mv1, eMv1, h0⟩ := lt_out h0
  refine p_modi (ty := .int) K X 0 (by decide) (fun _ _ => rfl) (by decide +kernel) ⟨rfl, rfl⟩ eMv1 q1399 dX8_worst_2 (fun H locs X => ?_)
  refine lv_iconst (v := (-1)) hx hb dX8_worst_5 (by decide) ?_
  refine lv_istore_n (lv' := [(1, .int (-1)), (0, .ref (am 0))]) hx hb dX8_worst_6 rfl hl (by decide) rfl (fun ls hl => ?_)
  refine lv_iconst (v := 0) hx hb dX8_worst_7 (by decide) ?_
  refine lv_istore_n (lv' := [(2, .int 0), (1, .int (-1)), (0, .ref (am 0))]) hx hb dX8_worst_8 rfl hl (by decide) rfl (fun ls hl => ?_)
  obtain ⟨e_1, he1, h0⟩ := ob_out h0
  have K9 : ∀ (k : Nat) (z9_1 : Int32) (z9_2 : Int32) (H : Heap) (locs : List Loc) (X : RW D (wM am ca Mv1 ++ xs) s.heap H locs) (ls : Array Slot) (hl : lv_has ls 3 [(0, .ref (am 0)), (1, .int z9_1), (2, .int z9_2)]) (hw : wloop (fun t => l_X8_worst_9 n Mv1 t.1 t.2) k (z9_1, z9_2) = some e_1), W p l e rm_X8_worst s m args below meth c H locs 0 0 Q (F0 m 9 ls []) := by
    intro k
    induction k with
    | zero => intro z9_1 z9_2 H locs X ls hl hw; exact (wloop_0 hw).elim
    | succ k ih1 =>
      intro z9_1 z9_2 H locs X ls hl hw
      obtain ⟨x_1, h1, hx1⟩ := wloop_out hw
      have h1 : l_X8_worst_9 n Mv1 z9_1 z9_2 = some x_1 := h1
      unfold l_X8_worst_9 at h1
      have J53 : ∀ (y53_l1 : Int32) (y53_l2 : Int32) (H : Heap) (locs : List Loc) (X : RW D (wM am ca Mv1 ++ xs) s.heap H locs) (ls : Array Slot) (hl : lv_has ls 3 [(0, .ref (am 0)), (1, .int y53_l1), (2, .int y53_l2)]) (h1 : b_X8_worst_53 y53_l1 y53_l2 = some x_1), W p l e rm_X8_worst s m args below meth c H locs 0 0 Q (F0 m 53 ls []) := by
        intro y53_l1 y53_l2 H locs X ls hl h1
        unfold b_X8_worst_53 at h1
        obtain ⟨x6, ex6, h1⟩ := lt_out h1
        refine lv_iinc (v := x6) (lv' := [(2, .int x6), (0, .ref (am 0)), (1, .int y53_l1)]) hx hb dX8_worst_53 hl (k := 2) rfl (by rw [ex6]; rfl) (by decide) rfl (fun ls hl => ?_)
        refine lv_goto (tgt := 9) hx hb dX8_worst_56 (by decide) ?_
        exact ih1 y53_l1 x6 H locs X ls (lv_sub hl [1, 2, 0] rfl) (wl_l h1 hx1)
      have J51 : ∀ (y51_l2 : Int32) (H : Heap) (locs : List Loc) (X : RW D (wM am ca Mv1 ++ xs) s.heap H locs) (ls : Array Slot) (hl : lv_has ls 3 [(0, .ref (am 0)), (2, .int y51_l2)]) (h1 : b_X8_worst_51 y51_l2 = some x_1), W p l e rm_X8_worst s m args below meth c H locs 0 0 Q (F0 m 51 ls []) := by
        intro y51_l2 H locs X ls hl h1
        unfold b_X8_worst_51 at h1
        refine lv_iload_n hx hb dX8_worst_51 rfl (lv_at hl 1 rfl) ?_
        refine lv_istore_n (lv' := [(1, .int y51_l2), (0, .ref (am 0)), (2, .int y51_l2)]) hx hb dX8_worst_52 rfl hl (by decide) rfl (fun ls hl => ?_)
        exact J53 y51_l2 y51_l2 H locs X ls (lv_sub hl [1, 0, 2] rfl) h1
      refine lv_iload_n hx hb dX8_worst_9 rfl (lv_at hl 2 rfl) ?_
      refine lv_aload_n hx hb dX8_worst_10 rfl (lv_at hl 0 rfl) ?_
      refine g_modr K X 1 (by decide) (fun _ _ => rfl) q1400 dX8_worst_11 ?_
      refine lv_iconst (v := 2) hx hb dX8_worst_14 (by decide) ?_
      obtain ⟨c2, h1⟩ := if_o h1
      refine a_modi K X 1 1 102 rfl rfl (inb_vp c2) dX8_worst_15 ?_
      refine lv_icmp_ge (tgt := 59) hx hb dX8_worst_16 (by decide) (fun c3 => ?_) (fun c3 => ?_)
      · have h1 := if_t c3 h1
        have q1 := wl_r h1 hx1
        exact J59 z9_1 Mv1 H locs X ls (lv_sub hl [1] rfl) (by rw [q1] at h0; exact h0)
      · have h1 := if_f c3 h1
        refine lv_aload_n hx hb dX8_worst_19 rfl (lv_at hl 0 rfl) ?_
        refine lv_iload_n hx hb dX8_worst_20 rfl (lv_at hl 2 rfl) ?_
        obtain ⟨x4, ex4, h1⟩ := ob_out h1
        have kx4 := m_X8_isWhole l D ca am Mv1 xs z9_2 x4 ex4 H.size
        refine w_callV0 K X wM_fstx kx4 hl.1 1 q1655 q1657 q52 q97 q1658 hv_X8_isWhole ⟨⟨Nat.le_of_ble_eq_true rfl, Nat.le_of_ble_eq_true rfl⟩, rfl, rfl⟩ pl_modo rfl rfl rfl rfl (Nat.le_of_ble_eq_true rfl) dX8_worst_21 ⟨Nat.le_of_ble_eq_true rfl, Nat.le_of_ble_eq_true rfl⟩ rfl (fun H locs X => ?_)
        refine w_zeq (tgt := 53) K dX8_worst_24 (by decide) (fun c5 => ?_) (fun c5 => ?_)
        · have h1 := if_f c5 h1
          exact J53 z9_1 z9_2 H locs X ls (lv_sub hl [0, 1, 2] rfl) h1
        · have h1 := if_t c5 h1
          refine lv_iload_n hx hb dX8_worst_27 rfl (lv_at hl 1 rfl) ?_
          refine lv_iconst (v := (-1)) hx hb dX8_worst_28 (by decide) ?_
          refine lv_icmp_eq (tgt := 51) hx hb dX8_worst_29 (by decide) (fun c7 => ?_) (fun c7 => ?_)
          · have h1 := if_t c7 h1
            exact J51 z9_2 H locs X ls (lv_sub hl [0, 2] rfl) h1
          · have h1 := if_f c7 h1
            refine lv_aload_n hx hb dX8_worst_32 rfl (lv_at hl 0 rfl) ?_
            refine lv_iload_n hx hb dX8_worst_33 rfl (lv_at hl 2 rfl) ?_
            obtain ⟨x8, ex8, h1⟩ := ob_out h1
            have kx8 := m_X8_offOf l D ca am n Mv1 xs z9_2 x8 ex8 H.size
            refine w_callV0 K X wM_fstx kx8 hl.1 1 q1744 q1746 q65 q97 q1747 hv_X8_offOf ⟨⟨Nat.le_of_ble_eq_true rfl, Nat.le_of_ble_eq_true rfl⟩, rfl, rfl⟩ pl_modo rfl rfl rfl rfl (Nat.le_of_ble_eq_true rfl) dX8_worst_34 ⟨Nat.le_of_ble_eq_true rfl, Nat.le_of_ble_eq_true rfl⟩ rfl (fun H locs X => ?_)
            obtain ⟨x9, ex9, h1⟩ := lt_out h1
            have kx9 := m_X8_off0 l D ca (wM am ca Mv1 ++ xs) x8 x9 ex9.symm H.size
            refine w_callS0 K X wM_fstx kx9 hl.1 1 q1776 q1777 q97 q1778 hs_X8_off0 ⟨⟨Nat.le_of_ble_eq_true rfl, Nat.le_of_ble_eq_true rfl⟩, rfl, rfl⟩ rfl rfl (Nat.le_of_ble_eq_true rfl) dX8_worst_37 ⟨Nat.le_of_ble_eq_true rfl, Nat.le_of_ble_eq_true rfl⟩ rfl (fun H locs X => ?_)
            refine lv_aload_n hx hb dX8_worst_40 rfl (lv_at hl 0 rfl) ?_
            refine lv_iload_n hx hb dX8_worst_41 rfl (lv_at hl 1 rfl) ?_
            obtain ⟨x10, ex10, h1⟩ := ob_out h1
            have kx10 := m_X8_offOf l D ca am n Mv1 xs z9_1 x10 ex10 H.size
            refine w_callV0 K X wM_fstx kx10 hl.1 1 q1744 q1746 q65 q97 q1747 hv_X8_offOf ⟨⟨Nat.le_of_ble_eq_true rfl, Nat.le_of_ble_eq_true rfl⟩, rfl, rfl⟩ pl_modo rfl rfl rfl rfl (Nat.le_of_ble_eq_true rfl) dX8_worst_42 ⟨Nat.le_of_ble_eq_true rfl, Nat.le_of_ble_eq_true rfl⟩ rfl (fun H locs X => ?_)
            obtain ⟨x11, ex11, h1⟩ := lt_out h1
            have kx11 := m_X8_off0 l D ca (wM am ca Mv1 ++ xs) x10 x11 ex11.symm H.size
            refine w_callS0 K X wM_fstx kx11 hl.1 1 q1776 q1777 q97 q1778 hs_X8_off0 ⟨⟨Nat.le_of_ble_eq_true rfl, Nat.le_of_ble_eq_true rfl⟩, rfl, rfl⟩ rfl rfl (Nat.le_of_ble_eq_true rfl) dX8_worst_45 ⟨Nat.le_of_ble_eq_true rfl, Nat.le_of_ble_eq_true rfl⟩ rfl (fun H locs X => ?_)
            refine lv_icmp_le (tgt := 53) hx hb dX8_worst_48 (by decide) (fun c12 => ?_) (fun c12 => ?_)
            · have h1 := if_t c12 h1
              exact J53 z9_1 z9_2 H locs X ls (lv_sub hl [0, 1, 2] rfl) h1
            · have h1 := if_f c12 h1
              exact J51 z9_2 H locs X ls (lv_sub hl [0, 2] rfl) h1
  exact K9 n (-1) 0 H locs X ls (lv_sub hl [2, 1, 0] rfl) he1
-- X8_isPressure
def f_X8_isPressure (a1 : Int32) : Bool :=
  lt (f_X8_in a1.toInt64 0 99999) fun x1 =>
  x1
abbrev rm_X8_isPressure : Room := { frames := 1, cells := 0, slots := 0, locals := 25 }
set_option maxRecDepth 100000 in
set_option maxHeartbeats 4000000 in
theorem m_X8_isPressure (l : Launch) (D : va_G) (ca : Nat → ClassId) (ws : va_W) (a1 : Int32) (res : Bool) (h0 : f_X8_isPressure a1 = res) (sz : Nat) : Met l yX8_isPressure (ws_ yX8_isPressure cX8_isPressure 1 (some .boolean)) rm_X8_isPressure (PCw D ca (ws) sz [.int a1]) (QMw D (ws) (ws) sz (some (.int (b2i res)))) 0 0 (AL (ws) sz) := by
  refine met_of (by decide) (Nat.le_of_ble_eq_true rfl) (fun p e s m args below meth c K hr0 X hsz ls hl => ?_)
  have K : MC D ca p s m args meth c cX8_isPressure 1 RX8 := K
  have hx := K.1
  have hb := K.2.1
  have hl : lv_has ls 1 [(0, .int a1)] := hl
  generalize hQ : MQ below _ args s 0 0 _ = Q
  unfold f_X8_isPressure at h0
  suffices Z : ∀ (H : Heap) (locs : List Loc) (X : RW D (ws) s.heap H locs), W p l e rm_X8_isPressure s m args below meth c H locs 0 0 Q (F0 m 0 ls []) from Z _ _ X
  intro H locs X
  refine lv_iload_n hx hb dX8_isPressure_0 rfl (lv_at hl 0 rfl) ?_
  refine lv_i2l hx hb dX8_isPressure_1 rfl ?_
  refine lv_lconst (v := 0) hx hb dX8_isPressure_2 (by decide) ?_
  refine lv_ldc2 hx hb K.2.2.2.1 (K.2.2.2.2.1 _ q1786) dX8_isPressure_3 ?_
  obtain ⟨x1, ex1, h0⟩ := lt_out h0
  have kx1 := m_X8_in l D ca (ws) a1.toInt64 0 99999 x1 ex1.symm H.size
  refine w_callS0 K X rfl kx1 hl.1 3 q1504 q1505 q97 q1506 hs_X8_in ⟨⟨Nat.le_of_ble_eq_true rfl, Nat.le_of_ble_eq_true rfl⟩, rfl, rfl⟩ rfl rfl (Nat.le_of_ble_eq_true rfl) dX8_isPressure_6 ⟨Nat.le_of_ble_eq_true rfl, Nat.le_of_ble_eq_true rfl⟩ rfl (fun H locs X => ?_)
  subst h0
  subst hQ
  exact w_zret K hr0 X rfl hsz (b2i_nar _) dX8_isPressure_9
-- X8_agree
def b_X8_agree_127  (M_127 : RowS) : Option (Bool × RowS) :=
  some (true, M_127)
def b_X8_agree_121  (y121_l3 : Int32) : Option (Int32 ⊕ (Unit ⊕ (Bool × RowS))) :=
  lt (y121_l3 + 1) fun x14 =>
  some (.inl x14)
def b_X8_agree_115  (y115_l4 : Int32) : Option (Int32 ⊕ (Unit ⊕ (Bool × RowS))) :=
  lt (y115_l4 + 1) fun x20 =>
  some (.inl x20)
def l_X8_agree_68 (n : Nat) (a1 : Int32) (a2 : Int32) (Mv8 : RowS) (z34_3 : Int32) (z68_4 : Int32) : Option (Int32 ⊕ (Unit ⊕ (Bool × RowS))) :=
  if z34_3 ≤ z68_4 then
    some (.inr (.inl ()))
  else
    ob (f_X8_of Mv8 z68_4 1) fun x18 =>
    if x18 = a1 then
      ob (f_X8_isWhole Mv8 z68_4) fun x21 =>
      if x21 = true then
        ob (f_X8_toldBy n Mv8 z34_3) fun x23 =>
        ob (f_X8_toldBy n Mv8 z68_4) fun x24 =>
        lt (f_X8_off0 (x23 - x24)) fun x25 =>
        if x25 ≤ a2 then
          b_X8_agree_115 z68_4
        else
          some (.inr (.inr (false, Mv8)))
      else
        b_X8_agree_115 z68_4
    else
      b_X8_agree_115 z68_4
def l_X8_agree_34 (n : Nat) (a1 : Int32) (a2 : Int32) (Mv8 : RowS) (z34_3 : Int32) : Option (Int32 ⊕ (Unit ⊕ (Bool × RowS))) :=
  if 0 ≤ (2 : Int32).toInt ∧ (2 : Int32).toInt < 102 then
    if (Mv8.1 1 (2 : Int32).toNatClampNeg) ≤ z34_3 then
      some (.inr (.inl ()))
    else
      ob (f_X8_of Mv8 z34_3 1) fun x12 =>
      if x12 = a1 then
        ob (f_X8_isWhole Mv8 z34_3) fun x15 =>
        if x15 = true then
          ob (wloop (fun t => l_X8_agree_68 n a1 a2 Mv8 z34_3 t) n 0) (fun t => match t with | .inl t => b_X8_agree_121 z34_3 | .inr r => some (.inr (.inr r)))
        else
          b_X8_agree_121 z34_3
      else
        b_X8_agree_121 z34_3
  else none
def f_X8_agree (n : Nat) (M : RowS) (a1 : Int32) (a2 : Int32) : Option (Bool × RowS) :=
  lt (si M 0 0 0) fun Mv1 =>
  ob (f_X8_isPoint Mv1 a1) fun x2 =>
  lt (f_X8_fails Mv1 (b2i x2) 1) fun x3 =>
  lt (x3.2) fun Mv4 =>
  if x3.1 = true then
    some (false, Mv4)
  else
    lt (f_X8_isPressure a2) fun x6 =>
    lt (f_X8_fails Mv4 (b2i x6) 2) fun x7 =>
    lt (x7.2) fun Mv8 =>
    if x7.1 = true then
      some (false, Mv8)
    else
      ob (wloop (fun t => l_X8_agree_34 n a1 a2 Mv8 t) n 0) (fun t => match t with | .inl t => b_X8_agree_127 Mv8 | .inr r => some r)
abbrev rm_X8_agree : Room := { frames := 10, cells := 0, slots := 0, locals := 235 }
set_option maxRecDepth 100000 in
set_option maxHeartbeats 4000000 in
theorem m_X8_agree (l : Launch) (D : va_G) (ca : Nat → ClassId) (am : Nat → Nat) (n : Nat) (M : RowS) (xs : va_W) (a1 : Int32) (a2 : Int32) (res : Bool) (M' : RowS) (h0 : f_X8_agree n M a1 a2 = some (res, M')) (sz : Nat) : Met l yX8_agree (ws_ yX8_agree cX8_agree 5 (some .boolean)) rm_X8_agree (PCw D ca (wM am ca M ++ xs) sz [.ref (am 0), .int a1, .int a2]) (QMw D (wM am ca M ++ xs) (wM am ca (M') ++ xs) sz (some (.int (b2i res)))) 0 0 (AL (wM am ca M ++ xs) sz) := by
  refine met_of (by decide) (Nat.le_of_ble_eq_true rfl) (fun p e s m args below meth c K hr0 X hsz ls hl => ?_)
  have K : MC D ca p s m args meth c cX8_agree 5 RX8 := K
  have hx := K.1
  have hb := K.2.1
  have hl : lv_has ls 5 [(0, .ref (am 0)), (1, .int a1), (2, .int a2)] := hl
  generalize hQ : MQ below _ args s 0 0 _ = Q
  unfold f_X8_agree at h0
  suffices Z : ∀ (H : Heap) (locs : List Loc) (X : RW D (wM am ca M ++ xs) s.heap H locs), W p l e rm_X8_agree s m args below meth c H locs 0 0 Q (F0 m 0 ls []) from Z _ _ X
  intro H locs X
  have J127 : ∀ (M_127 : RowS) (H : Heap) (locs : List Loc) (X : RW D (wM am ca M_127 ++ xs) s.heap H locs) (ls : Array Slot) (hl : lv_has ls 5 []) (h0 : b_X8_agree_127 M_127 = some (res, M')), W p l e rm_X8_agree s m args below meth c H locs 0 0 Q (F0 m 127 ls []) := by
    intro M_127 H locs X ls hl h0
    unfold b_X8_agree_127 at h0
    refine lv_iconst (v := 1) hx hb dX8_agree_127 (by decide) ?_
    have h0 := Option.some.inj h0
    obtain ⟨q_0, q_1⟩ := Prod.mk.inj h0
    subst q_0
    subst q_1
    subst hQ
    refine w_int (y := b2i true) (by decide) ?_
    exact w_zret K hr0 X wM_fstx hsz (b2i_nar _) dX8_agree_128
  refine lv_aload_n hx hb dX8_agree_0 rfl (lv_at hl 0 rfl) ?_
  refine lv_iconst (v := 0) hx hb dX8_agree_1 (by decide) ?_
  obtain ⟨Mv1, eMv1, h0⟩ := lt_out h0
  refine p_modi (ty := .int) K X 0 (by decide) (fun _ _ => rfl) (by decide +kernel) ⟨rfl, rfl⟩ eMv1 q1399 dX8_agree_2 (fun H locs X => ?_)
  refine lv_aload_n hx hb dX8_agree_5 rfl (lv_at hl 0 rfl) ?_
  refine lv_aload_n hx hb dX8_agree_6 rfl (lv_at hl 0 rfl) ?_
  refine lv_iload_n hx hb dX8_agree_7 rfl (lv_at hl 1 rfl) ?_
  obtain ⟨x2, ex2, h0⟩ := ob_out h0
  have kx2 := m_X8_isPoint l D ca am Mv1 xs a1 x2 ex2 H.size
  refine w_callV0 K X wM_fstx kx2 hl.1 1 q1689 q1691 q58 q97 q1692 hv_X8_isPoint ⟨⟨Nat.le_of_ble_eq_true rfl, Nat.le_of_ble_eq_true rfl⟩, rfl, rfl⟩ pl_modo rfl rfl rfl rfl (Nat.le_of_ble_eq_true rfl) dX8_agree_8 ⟨Nat.le_of_ble_eq_true rfl, Nat.le_of_ble_eq_true rfl⟩ rfl (fun H locs X => ?_)
  refine lv_iconst (v := 1) hx hb dX8_agree_11 (by decide) ?_
  obtain ⟨x3, ex3, h0⟩ := lt_out h0
  obtain ⟨Mv4, eMv4, h0⟩ := lt_out h0
  have kx3 := m_X8_fails l D ca am Mv1 xs (b2i x2) 1 x3.1 x3.2 ex3.symm H.size
  rw [← eMv4] at kx3
  refine w_callV0 K X wM_fstx kx3 hl.1 2 q1507 q1509 q22 q97 q1510 hv_X8_fails ⟨⟨Nat.le_of_ble_eq_true rfl, Nat.le_of_ble_eq_true rfl⟩, rfl, rfl⟩ pl_modo rfl rfl rfl rfl (Nat.le_of_ble_eq_true rfl) dX8_agree_12 ⟨Nat.le_of_ble_eq_true rfl, Nat.le_of_ble_eq_true rfl⟩ rfl (fun H locs X => ?_)
  refine w_zne (tgt := 30) K dX8_agree_15 (by decide) (fun c5 => ?_) (fun c5 => ?_)
  · have h0 := if_t c5 h0
    refine lv_iconst (v := 0) hx hb dX8_agree_30 (by decide) ?_
    have h0 := Option.some.inj h0
    obtain ⟨q_0, q_1⟩ := Prod.mk.inj h0
    subst q_0
    subst q_1
    subst hQ
    refine w_int (y := b2i false) (by decide) ?_
    exact w_zret K hr0 X wM_fstx hsz (b2i_nar _) dX8_agree_31
  · have h0 := if_f c5 h0
    refine lv_aload_n hx hb dX8_agree_18 rfl (lv_at hl 0 rfl) ?_
    refine lv_iload_n hx hb dX8_agree_19 rfl (lv_at hl 2 rfl) ?_
    obtain ⟨x6, ex6, h0⟩ := lt_out h0
    have kx6 := m_X8_isPressure l D ca (wM am ca Mv4 ++ xs) a2 x6 ex6.symm H.size
    refine w_callS0 K X wM_fstx kx6 hl.1 1 q1783 q1784 q97 q1785 hs_X8_isPressure ⟨⟨Nat.le_of_ble_eq_true rfl, Nat.le_of_ble_eq_true rfl⟩, rfl, rfl⟩ rfl rfl (Nat.le_of_ble_eq_true rfl) dX8_agree_20 ⟨Nat.le_of_ble_eq_true rfl, Nat.le_of_ble_eq_true rfl⟩ rfl (fun H locs X => ?_)
    refine lv_iconst (v := 2) hx hb dX8_agree_23 (by decide) ?_
    obtain ⟨x7, ex7, h0⟩ := lt_out h0
    obtain ⟨Mv8, eMv8, h0⟩ := lt_out h0
    have kx7 := m_X8_fails l D ca am Mv4 xs (b2i x6) 2 x7.1 x7.2 ex7.symm H.size
    rw [← eMv8] at kx7
    refine w_callV0 K X wM_fstx kx7 hl.1 2 q1507 q1509 q22 q97 q1510 hv_X8_fails ⟨⟨Nat.le_of_ble_eq_true rfl, Nat.le_of_ble_eq_true rfl⟩, rfl, rfl⟩ pl_modo rfl rfl rfl rfl (Nat.le_of_ble_eq_true rfl) dX8_agree_24 ⟨Nat.le_of_ble_eq_true rfl, Nat.le_of_ble_eq_true rfl⟩ rfl (fun H locs X => ?_)
    refine w_zeq (tgt := 32) K dX8_agree_27 (by decide) (fun c9 => ?_) (fun c9 => ?_)
    · have h0 := if_f c9 h0
      refine lv_iconst (v := 0) hx hb dX8_agree_32 (by decide) ?_
      refine lv_istore_n (lv' := [(3, .int 0), (0, .ref (am 0)), (1, .int a1), (2, .int a2)]) hx hb dX8_agree_33 rfl hl (by decide) rfl (fun ls hl => ?_)
      obtain ⟨e_1, he1, h0⟩ := ob_out h0
      have K34 : ∀ (k : Nat) (z34_3 : Int32) (H : Heap) (locs : List Loc) (X : RW D (wM am ca Mv8 ++ xs) s.heap H locs) (ls : Array Slot) (hl : lv_has ls 5 [(0, .ref (am 0)), (1, .int a1), (2, .int a2), (3, .int z34_3)]) (hw : wloop (fun t => l_X8_agree_34 n a1 a2 Mv8 t) k z34_3 = some e_1), W p l e rm_X8_agree s m args below meth c H locs 0 0 Q (F0 m 34 ls []) := by
        intro k
        induction k with
        | zero => intro z34_3 H locs X ls hl hw; exact (wloop_0 hw).elim
        | succ k ih1 =>
          intro z34_3 H locs X ls hl hw
          obtain ⟨x_1, h1, hx1⟩ := wloop_out hw
          have h1 : l_X8_agree_34 n a1 a2 Mv8 z34_3 = some x_1 := h1
          unfold l_X8_agree_34 at h1
          have J121 : ∀ (y121_l3 : Int32) (H : Heap) (locs : List Loc) (X : RW D (wM am ca Mv8 ++ xs) s.heap H locs) (ls : Array Slot) (hl : lv_has ls 5 [(0, .ref (am 0)), (1, .int a1), (2, .int a2), (3, .int y121_l3)]) (h1 : b_X8_agree_121 y121_l3 = some x_1), W p l e rm_X8_agree s m args below meth c H locs 0 0 Q (F0 m 121 ls []) := by
            intro y121_l3 H locs X ls hl h1
            unfold b_X8_agree_121 at h1
            obtain ⟨x14, ex14, h1⟩ := lt_out h1
            refine lv_iinc (v := x14) (lv' := [(3, .int x14), (0, .ref (am 0)), (1, .int a1), (2, .int a2)]) hx hb dX8_agree_121 hl (k := 3) rfl (by rw [ex14]; rfl) (by decide) rfl (fun ls hl => ?_)
            refine lv_goto (tgt := 34) hx hb dX8_agree_124 (by decide) ?_
            exact ih1 x14 H locs X ls (lv_sub hl [1, 2, 3, 0] rfl) (wl_l h1 hx1)
          refine lv_iload_n hx hb dX8_agree_34 rfl (lv_at hl 3 rfl) ?_
          refine lv_aload_n hx hb dX8_agree_35 rfl (lv_at hl 0 rfl) ?_
          refine g_modr K X 1 (by decide) (fun _ _ => rfl) q1400 dX8_agree_36 ?_
          refine lv_iconst (v := 2) hx hb dX8_agree_39 (by decide) ?_
          obtain ⟨c10, h1⟩ := if_o h1
          refine a_modi K X 1 1 102 rfl rfl (inb_vp c10) dX8_agree_40 ?_
          refine lv_icmp_ge (tgt := 127) hx hb dX8_agree_41 (by decide) (fun c11 => ?_) (fun c11 => ?_)
          · have h1 := if_t c11 h1
            have q1 := wl_r h1 hx1
            exact J127 Mv8 H locs X ls (lv_sub hl [] rfl) (by rw [q1] at h0; exact h0)
          · have h1 := if_f c11 h1
            refine lv_aload_n hx hb dX8_agree_44 rfl (lv_at hl 0 rfl) ?_
            refine lv_iload_n hx hb dX8_agree_45 rfl (lv_at hl 3 rfl) ?_
            refine lv_iconst (v := 1) hx hb dX8_agree_46 (by decide) ?_
            obtain ⟨x12, ex12, h1⟩ := ob_out h1
            have kx12 := m_X8_of l D ca am Mv8 xs z34_3 1 x12 ex12 H.size
            refine w_callV0 K X wM_fstx kx12 hl.1 2 q1631 q1633 q47 q97 q1634 hv_X8_of ⟨⟨Nat.le_of_ble_eq_true rfl, Nat.le_of_ble_eq_true rfl⟩, rfl, rfl⟩ pl_modo rfl rfl rfl rfl (Nat.le_of_ble_eq_true rfl) dX8_agree_47 ⟨Nat.le_of_ble_eq_true rfl, Nat.le_of_ble_eq_true rfl⟩ rfl (fun H locs X => ?_)
            refine lv_iload_n hx hb dX8_agree_50 rfl (lv_at hl 1 rfl) ?_
            refine lv_icmp_ne (tgt := 121) hx hb dX8_agree_51 (by decide) (fun c13 => ?_) (fun c13 => ?_)
            · have h1 := if_f c13 h1
              exact J121 z34_3 H locs X ls (lv_sub hl [0, 1, 2, 3] rfl) h1
            · have h1 := if_t c13 h1
              refine lv_aload_n hx hb dX8_agree_54 rfl (lv_at hl 0 rfl) ?_
              refine lv_iload_n hx hb dX8_agree_55 rfl (lv_at hl 3 rfl) ?_
              obtain ⟨x15, ex15, h1⟩ := ob_out h1
              have kx15 := m_X8_isWhole l D ca am Mv8 xs z34_3 x15 ex15 H.size
              refine w_callV0 K X wM_fstx kx15 hl.1 1 q1655 q1657 q52 q97 q1658 hv_X8_isWhole ⟨⟨Nat.le_of_ble_eq_true rfl, Nat.le_of_ble_eq_true rfl⟩, rfl, rfl⟩ pl_modo rfl rfl rfl rfl (Nat.le_of_ble_eq_true rfl) dX8_agree_56 ⟨Nat.le_of_ble_eq_true rfl, Nat.le_of_ble_eq_true rfl⟩ rfl (fun H locs X => ?_)
              refine w_zne (tgt := 65) K dX8_agree_59 (by decide) (fun c16 => ?_) (fun c16 => ?_)
              · have h1 := if_t c16 h1
                refine lv_iconst (v := 0) hx hb dX8_agree_65 (by decide) ?_
                refine lv_istore (lv' := [(4, .int 0), (0, .ref (am 0)), (1, .int a1), (2, .int a2), (3, .int z34_3)]) hx hb dX8_agree_66 hl (by decide) rfl (fun ls hl => ?_)
                obtain ⟨e_2, he2, h1⟩ := ob_out h1
                have K68 : ∀ (k : Nat) (z68_4 : Int32) (H : Heap) (locs : List Loc) (X : RW D (wM am ca Mv8 ++ xs) s.heap H locs) (ls : Array Slot) (hl : lv_has ls 5 [(0, .ref (am 0)), (1, .int a1), (2, .int a2), (3, .int z34_3), (4, .int z68_4)]) (hw : wloop (fun t => l_X8_agree_68 n a1 a2 Mv8 z34_3 t) k z68_4 = some e_2), W p l e rm_X8_agree s m args below meth c H locs 0 0 Q (F0 m 68 ls []) := by
                  intro k
                  induction k with
                  | zero => intro z68_4 H locs X ls hl hw; exact (wloop_0 hw).elim
                  | succ k ih2 =>
                    intro z68_4 H locs X ls hl hw
                    obtain ⟨x_2, h2, hx2⟩ := wloop_out hw
                    have h2 : l_X8_agree_68 n a1 a2 Mv8 z34_3 z68_4 = some x_2 := h2
                    unfold l_X8_agree_68 at h2
                    have J115 : ∀ (y115_l4 : Int32) (H : Heap) (locs : List Loc) (X : RW D (wM am ca Mv8 ++ xs) s.heap H locs) (ls : Array Slot) (hl : lv_has ls 5 [(0, .ref (am 0)), (1, .int a1), (2, .int a2), (3, .int z34_3), (4, .int y115_l4)]) (h2 : b_X8_agree_115 y115_l4 = some x_2), W p l e rm_X8_agree s m args below meth c H locs 0 0 Q (F0 m 115 ls []) := by
                      intro y115_l4 H locs X ls hl h2
                      unfold b_X8_agree_115 at h2
                      obtain ⟨x20, ex20, h2⟩ := lt_out h2
                      refine lv_iinc (v := x20) (lv' := [(4, .int x20), (0, .ref (am 0)), (1, .int a1), (2, .int a2), (3, .int z34_3)]) hx hb dX8_agree_115 hl (k := 4) rfl (by rw [ex20]; rfl) (by decide) rfl (fun ls hl => ?_)
                      refine lv_goto (tgt := 68) hx hb dX8_agree_118 (by decide) ?_
                      exact ih2 x20 H locs X ls (lv_sub hl [1, 2, 3, 4, 0] rfl) (wl_l h2 hx2)
                    refine lv_iload hx hb dX8_agree_68 (lv_at hl 4 rfl) ?_
                    refine lv_iload_n hx hb dX8_agree_70 rfl (lv_at hl 3 rfl) ?_
                    refine lv_icmp_ge (tgt := 121) hx hb dX8_agree_71 (by decide) (fun c17 => ?_) (fun c17 => ?_)
                    · have h2 := if_t c17 h2
                      have q2 := wl_r h2 hx2
                      exact J121 z34_3 H locs X ls (lv_sub hl [0, 1, 2, 3] rfl) (by rw [q2] at h1; exact h1)
                    · have h2 := if_f c17 h2
                      refine lv_aload_n hx hb dX8_agree_74 rfl (lv_at hl 0 rfl) ?_
                      refine lv_iload hx hb dX8_agree_75 (lv_at hl 4 rfl) ?_
                      refine lv_iconst (v := 1) hx hb dX8_agree_77 (by decide) ?_
                      obtain ⟨x18, ex18, h2⟩ := ob_out h2
                      have kx18 := m_X8_of l D ca am Mv8 xs z68_4 1 x18 ex18 H.size
                      refine w_callV0 K X wM_fstx kx18 hl.1 2 q1631 q1633 q47 q97 q1634 hv_X8_of ⟨⟨Nat.le_of_ble_eq_true rfl, Nat.le_of_ble_eq_true rfl⟩, rfl, rfl⟩ pl_modo rfl rfl rfl rfl (Nat.le_of_ble_eq_true rfl) dX8_agree_78 ⟨Nat.le_of_ble_eq_true rfl, Nat.le_of_ble_eq_true rfl⟩ rfl (fun H locs X => ?_)
                      refine lv_iload_n hx hb dX8_agree_81 rfl (lv_at hl 1 rfl) ?_
                      refine lv_icmp_ne (tgt := 115) hx hb dX8_agree_82 (by decide) (fun c19 => ?_) (fun c19 => ?_)
                      · have h2 := if_f c19 h2
                        exact J115 z68_4 H locs X ls (lv_sub hl [0, 1, 2, 3, 4] rfl) h2
                      · have h2 := if_t c19 h2
                        refine lv_aload_n hx hb dX8_agree_85 rfl (lv_at hl 0 rfl) ?_
                        refine lv_iload hx hb dX8_agree_86 (lv_at hl 4 rfl) ?_
                        obtain ⟨x21, ex21, h2⟩ := ob_out h2
                        have kx21 := m_X8_isWhole l D ca am Mv8 xs z68_4 x21 ex21 H.size
                        refine w_callV0 K X wM_fstx kx21 hl.1 1 q1655 q1657 q52 q97 q1658 hv_X8_isWhole ⟨⟨Nat.le_of_ble_eq_true rfl, Nat.le_of_ble_eq_true rfl⟩, rfl, rfl⟩ pl_modo rfl rfl rfl rfl (Nat.le_of_ble_eq_true rfl) dX8_agree_88 ⟨Nat.le_of_ble_eq_true rfl, Nat.le_of_ble_eq_true rfl⟩ rfl (fun H locs X => ?_)
                        refine w_zeq (tgt := 115) K dX8_agree_91 (by decide) (fun c22 => ?_) (fun c22 => ?_)
                        · have h2 := if_f c22 h2
                          exact J115 z68_4 H locs X ls (lv_sub hl [0, 1, 2, 3, 4] rfl) h2
                        · have h2 := if_t c22 h2
                          refine lv_aload_n hx hb dX8_agree_94 rfl (lv_at hl 0 rfl) ?_
                          refine lv_iload_n hx hb dX8_agree_95 rfl (lv_at hl 3 rfl) ?_
                          obtain ⟨x23, ex23, h2⟩ := ob_out h2
                          have kx23 := m_X8_toldBy l D ca am n Mv8 xs z34_3 x23 ex23 H.size
                          refine w_callV0 K X wM_fstx kx23 hl.1 1 q1731 q1733 q63 q97 q1734 hv_X8_toldBy ⟨⟨Nat.le_of_ble_eq_true rfl, Nat.le_of_ble_eq_true rfl⟩, rfl, rfl⟩ pl_modo rfl rfl rfl rfl (Nat.le_of_ble_eq_true rfl) dX8_agree_96 ⟨Nat.le_of_ble_eq_true rfl, Nat.le_of_ble_eq_true rfl⟩ rfl (fun H locs X => ?_)
                          refine lv_aload_n hx hb dX8_agree_99 rfl (lv_at hl 0 rfl) ?_
                          refine lv_iload hx hb dX8_agree_100 (lv_at hl 4 rfl) ?_
                          obtain ⟨x24, ex24, h2⟩ := ob_out h2
                          have kx24 := m_X8_toldBy l D ca am n Mv8 xs z68_4 x24 ex24 H.size
                          refine w_callV0 K X wM_fstx kx24 hl.1 1 q1731 q1733 q63 q97 q1734 hv_X8_toldBy ⟨⟨Nat.le_of_ble_eq_true rfl, Nat.le_of_ble_eq_true rfl⟩, rfl, rfl⟩ pl_modo rfl rfl rfl rfl (Nat.le_of_ble_eq_true rfl) dX8_agree_102 ⟨Nat.le_of_ble_eq_true rfl, Nat.le_of_ble_eq_true rfl⟩ rfl (fun H locs X => ?_)
                          refine lv_isub hx hb dX8_agree_105 ?_
                          obtain ⟨x25, ex25, h2⟩ := lt_out h2
                          have kx25 := m_X8_off0 l D ca (wM am ca Mv8 ++ xs) (x23 - x24) x25 ex25.symm H.size
                          refine w_callS0 K X wM_fstx kx25 hl.1 1 q1776 q1777 q97 q1778 hs_X8_off0 ⟨⟨Nat.le_of_ble_eq_true rfl, Nat.le_of_ble_eq_true rfl⟩, rfl, rfl⟩ rfl rfl (Nat.le_of_ble_eq_true rfl) dX8_agree_106 ⟨Nat.le_of_ble_eq_true rfl, Nat.le_of_ble_eq_true rfl⟩ rfl (fun H locs X => ?_)
                          refine lv_iload_n hx hb dX8_agree_109 rfl (lv_at hl 2 rfl) ?_
                          refine lv_icmp_le (tgt := 115) hx hb dX8_agree_110 (by decide) (fun c26 => ?_) (fun c26 => ?_)
                          · have h2 := if_t c26 h2
                            exact J115 z68_4 H locs X ls (lv_sub hl [0, 1, 2, 3, 4] rfl) h2
                          · have h2 := if_f c26 h2
                            refine lv_iconst (v := 0) hx hb dX8_agree_113 (by decide) ?_
                            have q2 := wl_r h2 hx2
                            rw [q2] at h1
                            have h1 : some (Sum.inr (Sum.inr (false, Mv8))) = some x_1 := h1
                            have q1 := wl_r h1 hx1
                            rw [q1] at h0
                            have h0 : some (false, Mv8) = some (res, M') := h0
                            have h0 := Option.some.inj h0
                            obtain ⟨q_0, q_1⟩ := Prod.mk.inj h0
                            subst q_0
                            subst q_1
                            subst hQ
                            refine w_int (y := b2i false) (by decide) ?_
                            exact w_zret K hr0 X wM_fstx hsz (b2i_nar _) dX8_agree_114
                exact K68 n 0 H locs X ls (lv_sub hl [1, 2, 3, 4, 0] rfl) he2
              · have h1 := if_f c16 h1
                refine lv_goto (tgt := 121) hx hb dX8_agree_62 (by decide) ?_
                exact J121 z34_3 H locs X ls (lv_sub hl [0, 1, 2, 3] rfl) h1
      exact K34 n 0 H locs X ls (lv_sub hl [1, 2, 3, 0] rfl) he1
    · have h0 := if_t c9 h0
      refine lv_iconst (v := 0) hx hb dX8_agree_30 (by decide) ?_
      have h0 := Option.some.inj h0
      obtain ⟨q_0, q_1⟩ := Prod.mk.inj h0
      subst q_0
      subst q_1
      subst hQ
      refine w_int (y := b2i false) (by decide) ?_
      exact w_zret K hr0 X wM_fstx hsz (b2i_nar _) dX8_agree_31
-- X8_brokenAside
def b_X8_brokenAside_52  (y52_l1 : Int32) : Option Int32 :=
  some y52_l1
def b_X8_brokenAside_44  (y44_l2 : Int32) (y44_s0 : Int32) (y44_s1 : Int32) : Option ((Int32 × Int32) ⊕ Int32) :=
  lt (y44_s0 ||| y44_s1) fun x5 =>
  lt (y44_l2 + 1) fun x6 =>
  some (.inl (x5, x6))
def b_X8_brokenAside_37  (y37_l2 : Int32) (y37_s0 : Int32) : Option ((Int32 × Int32) ⊕ Int32) :=
  b_X8_brokenAside_44 y37_l2 y37_s0 0
def l_X8_brokenAside_4 (M : RowS) (z4_1 : Int32) (z4_2 : Int32) : Option ((Int32 × Int32) ⊕ Int32) :=
  if 0 ≤ (2 : Int32).toInt ∧ (2 : Int32).toInt < 102 then
    if (M.1 1 (2 : Int32).toNatClampNeg) ≤ z4_2 then
      some (.inr z4_1)
    else
      ob (f_X8_isWhole M z4_2) fun x3 =>
      if x3 = true then
        b_X8_brokenAside_37 z4_2 z4_1
      else
        lt (f_X8_cell z4_2 6) fun x7 =>
        if 0 ≤ x7.toInt ∧ x7.toInt < 102 then
          if (M.1 3 x7.toNatClampNeg) = 0 then
            b_X8_brokenAside_44 z4_2 z4_1 ((1 : Int32) <<< (z4_2 &&& 31))
          else
            b_X8_brokenAside_37 z4_2 z4_1
        else none
  else none
def f_X8_brokenAside (n : Nat) (M : RowS) : Option Int32 :=
  ob (wloop (fun t => l_X8_brokenAside_4 M t.1 t.2) n (0, 0)) (fun t => b_X8_brokenAside_52 t)
abbrev rm_X8_brokenAside : Room := { frames := 3, cells := 0, slots := 0, locals := 64 }
set_option maxRecDepth 100000 in
set_option maxHeartbeats 4000000 in
theorem m_X8_brokenAside (l : Launch) (D : va_G) (ca : Nat → ClassId) (am : Nat → Nat) (n : Nat) (M : RowS) (xs : va_W) (res : Int32) (h0 : f_X8_brokenAside n M = some res) (sz : Nat) : Met l yX8_brokenAside (ws_ yX8_brokenAside cX8_brokenAside 3 (some .int)) rm_X8_brokenAside (PCw D ca (wM am ca M ++ xs) sz [.ref (am 0)]) (QMw D (wM am ca M ++ xs) (wM am ca M ++ xs) sz (some (.int res))) 0 0 (AL (wM am ca M ++ xs) sz) := by
  refine met_of (by decide) (Nat.le_of_ble_eq_true rfl) (fun p e s m args below meth c K hr0 X hsz ls hl => ?_)
  have K : MC D ca p s m args meth c cX8_brokenAside 3 RX8 := K
  have hx := K.1
  have hb := K.2.1
  have hl : lv_has ls 3 [(0, .ref (am 0))] := hl
  generalize hQ : MQ below _ args s 0 0 _ = Q
  unfold f_X8_brokenAside at h0
  suffices Z : ∀ (H : Heap) (locs : List Loc) (X : RW D (wM am ca M ++ xs) s.heap H locs), W p l e rm_X8_brokenAside s m args below meth c H locs 0 0 Q (F0 m 0 ls []) from Z _ _ X
  intro H locs X
  have J52 : ∀ (y52_l1 : Int32) (H : Heap) (locs : List Loc) (X : RW D (wM am ca M ++ xs) s.heap H locs) (ls : Array Slot) (hl : lv_has ls 3 [(1, .int y52_l1)]) (h0 : b_X8_brokenAside_52 y52_l1 = some res), W p l e rm_X8_brokenAside s m args below meth c H locs 0 0 Q (F0 m 52 ls []) := by
    intro y52_l1 H locs X ls hl h0
    unfold b_X8_brokenAside_52 at h0
    refine lv_iload_n hx hb dX8_brokenAside_52 rfl (lv_at hl 0 rfl) ?_
    have h0 := Option.some.inj h0
    subst h0
    subst hQ
    exact w_iret K hr0 X wM_fstx hsz dX8_brokenAside_53
  refine lv_iconst (v := 0) hx hb dX8_brokenAside_0 (by decide) ?_
  refine lv_istore_n (lv' := [(1, .int 0), (0, .ref (am 0))]) hx hb dX8_brokenAside_1 rfl hl (by decide) rfl (fun ls hl => ?_)
  refine lv_iconst (v := 0) hx hb dX8_brokenAside_2 (by decide) ?_
  refine lv_istore_n (lv' := [(2, .int 0), (1, .int 0), (0, .ref (am 0))]) hx hb dX8_brokenAside_3 rfl hl (by decide) rfl (fun ls hl => ?_)
  obtain ⟨e_1, he1, h0⟩ := ob_out h0
  have K4 : ∀ (k : Nat) (z4_1 : Int32) (z4_2 : Int32) (H : Heap) (locs : List Loc) (X : RW D (wM am ca M ++ xs) s.heap H locs) (ls : Array Slot) (hl : lv_has ls 3 [(0, .ref (am 0)), (1, .int z4_1), (2, .int z4_2)]) (hw : wloop (fun t => l_X8_brokenAside_4 M t.1 t.2) k (z4_1, z4_2) = some e_1), W p l e rm_X8_brokenAside s m args below meth c H locs 0 0 Q (F0 m 4 ls []) := by
    intro k
    induction k with
    | zero => intro z4_1 z4_2 H locs X ls hl hw; exact (wloop_0 hw).elim
    | succ k ih1 =>
      intro z4_1 z4_2 H locs X ls hl hw
      obtain ⟨x_1, h1, hx1⟩ := wloop_out hw
      have h1 : l_X8_brokenAside_4 M z4_1 z4_2 = some x_1 := h1
      unfold l_X8_brokenAside_4 at h1
      have J44 : ∀ (y44_l2 : Int32) (y44_s0 : Int32) (y44_s1 : Int32) (H : Heap) (locs : List Loc) (X : RW D (wM am ca M ++ xs) s.heap H locs) (ls : Array Slot) (hl : lv_has ls 3 [(0, .ref (am 0)), (2, .int y44_l2)]) (h1 : b_X8_brokenAside_44 y44_l2 y44_s0 y44_s1 = some x_1), W p l e rm_X8_brokenAside s m args below meth c H locs 0 0 Q (F0 m 44 ls [.int y44_s1, .int y44_s0]) := by
        intro y44_l2 y44_s0 y44_s1 H locs X ls hl h1
        unfold b_X8_brokenAside_44 at h1
        refine lv_ior hx hb dX8_brokenAside_44 ?_
        obtain ⟨x5, ex5, h1⟩ := lt_out h1
        refine w_int ex5 ?_
        refine lv_istore_n (lv' := [(1, .int x5), (0, .ref (am 0)), (2, .int y44_l2)]) hx hb dX8_brokenAside_45 rfl hl (by decide) rfl (fun ls hl => ?_)
        obtain ⟨x6, ex6, h1⟩ := lt_out h1
        refine lv_iinc (v := x6) (lv' := [(2, .int x6), (1, .int x5), (0, .ref (am 0))]) hx hb dX8_brokenAside_46 hl (k := 2) rfl (by rw [ex6]; rfl) (by decide) rfl (fun ls hl => ?_)
        refine lv_goto (tgt := 4) hx hb dX8_brokenAside_49 (by decide) ?_
        exact ih1 x5 x6 H locs X ls (lv_sub hl [2, 1, 0] rfl) (wl_l h1 hx1)
      have J37 : ∀ (y37_l2 : Int32) (y37_s0 : Int32) (H : Heap) (locs : List Loc) (X : RW D (wM am ca M ++ xs) s.heap H locs) (ls : Array Slot) (hl : lv_has ls 3 [(0, .ref (am 0)), (2, .int y37_l2)]) (h1 : b_X8_brokenAside_37 y37_l2 y37_s0 = some x_1), W p l e rm_X8_brokenAside s m args below meth c H locs 0 0 Q (F0 m 37 ls [.int y37_s0]) := by
        intro y37_l2 y37_s0 H locs X ls hl h1
        unfold b_X8_brokenAside_37 at h1
        refine lv_iconst (v := 0) hx hb dX8_brokenAside_37 (by decide) ?_
        refine lv_goto (tgt := 44) hx hb dX8_brokenAside_38 (by decide) ?_
        exact J44 y37_l2 y37_s0 0 H locs X ls (lv_sub hl [0, 1] rfl) h1
      refine lv_iload_n hx hb dX8_brokenAside_4 rfl (lv_at hl 2 rfl) ?_
      refine lv_aload_n hx hb dX8_brokenAside_5 rfl (lv_at hl 0 rfl) ?_
      refine g_modr K X 1 (by decide) (fun _ _ => rfl) q1400 dX8_brokenAside_6 ?_
      refine lv_iconst (v := 2) hx hb dX8_brokenAside_9 (by decide) ?_
      obtain ⟨c1, h1⟩ := if_o h1
      refine a_modi K X 1 1 102 rfl rfl (inb_vp c1) dX8_brokenAside_10 ?_
      refine lv_icmp_ge (tgt := 52) hx hb dX8_brokenAside_11 (by decide) (fun c2 => ?_) (fun c2 => ?_)
      · have h1 := if_t c2 h1
        have q1 := wl_r h1 hx1
        exact J52 z4_1 H locs X ls (lv_sub hl [1] rfl) (by rw [q1] at h0; exact h0)
      · have h1 := if_f c2 h1
        refine lv_iload_n hx hb dX8_brokenAside_14 rfl (lv_at hl 1 rfl) ?_
        refine lv_aload_n hx hb dX8_brokenAside_15 rfl (lv_at hl 0 rfl) ?_
        refine lv_iload_n hx hb dX8_brokenAside_16 rfl (lv_at hl 2 rfl) ?_
        obtain ⟨x3, ex3, h1⟩ := ob_out h1
        have kx3 := m_X8_isWhole l D ca am M xs z4_2 x3 ex3 H.size
        refine w_callV0 K X wM_fstx kx3 hl.1 1 q1655 q1657 q52 q97 q1658 hv_X8_isWhole ⟨⟨Nat.le_of_ble_eq_true rfl, Nat.le_of_ble_eq_true rfl⟩, rfl, rfl⟩ pl_modo rfl rfl rfl rfl (Nat.le_of_ble_eq_true rfl) dX8_brokenAside_17 ⟨Nat.le_of_ble_eq_true rfl, Nat.le_of_ble_eq_true rfl⟩ rfl (fun H locs X => ?_)
        refine w_zne (tgt := 37) K dX8_brokenAside_20 (by decide) (fun c4 => ?_) (fun c4 => ?_)
        · have h1 := if_t c4 h1
          exact J37 z4_2 z4_1 H locs X ls (lv_sub hl [0, 2] rfl) h1
        · have h1 := if_f c4 h1
          refine lv_aload_n hx hb dX8_brokenAside_23 rfl (lv_at hl 0 rfl) ?_
          refine g_modr K X 3 (by decide) (fun _ _ => rfl) q1402 dX8_brokenAside_24 ?_
          refine lv_iload_n hx hb dX8_brokenAside_27 rfl (lv_at hl 2 rfl) ?_
          refine lv_bipush (v := 6) hx hb dX8_brokenAside_28 (by decide) ?_
          obtain ⟨x7, ex7, h1⟩ := lt_out h1
          have kx7 := m_X8_cell l D ca (wM am ca M ++ xs) z4_2 6 x7 ex7.symm H.size
          refine w_callS0 K X wM_fstx kx7 hl.1 2 q1598 q1599 q97 q1600 hs_X8_cell ⟨⟨Nat.le_of_ble_eq_true rfl, Nat.le_of_ble_eq_true rfl⟩, rfl, rfl⟩ rfl rfl (Nat.le_of_ble_eq_true rfl) dX8_brokenAside_30 ⟨Nat.le_of_ble_eq_true rfl, Nat.le_of_ble_eq_true rfl⟩ rfl (fun H locs X => ?_)
          obtain ⟨c8, h1⟩ := if_o h1
          refine a_modi K X 3 3 102 rfl rfl (inb_vp c8) dX8_brokenAside_33 ?_
          refine lv_if_eq (tgt := 41) hx hb dX8_brokenAside_34 (by decide) (fun c9 => ?_) (fun c9 => ?_)
          · have h1 := if_t c9 h1
            refine lv_iconst (v := 1) hx hb dX8_brokenAside_41 (by decide) ?_
            refine lv_iload_n hx hb dX8_brokenAside_42 rfl (lv_at hl 2 rfl) ?_
            refine lv_ishl hx hb dX8_brokenAside_43 ?_
            exact J44 z4_2 z4_1 ((1 : Int32) <<< (z4_2 &&& 31)) H locs X ls (lv_sub hl [0, 2] rfl) h1
          · have h1 := if_f c9 h1
            exact J37 z4_2 z4_1 H locs X ls (lv_sub hl [0, 2] rfl) h1
  exact K4 n 0 0 H locs X ls (lv_sub hl [2, 1, 0] rfl) he1
-- X8_wouldBreak
def f_X8_wouldBreak (n : Nat) (M : RowS) (a1 : Int32) (a2 : Int32) : Option (Int32 × RowS) :=
  lt (si M 0 0 0) fun Mv1 =>
  ob (f_X8_isPoint Mv1 a1) fun x2 =>
  lt (f_X8_fails Mv1 (b2i x2) 1) fun x3 =>
  lt (x3.2) fun Mv4 =>
  if x3.1 = true then
    some (0, Mv4)
  else
    lt (f_X8_isPressure a2) fun x6 =>
    lt (f_X8_fails Mv4 (b2i x6) 2) fun x7 =>
    lt (x7.2) fun Mv8 =>
    if x7.1 = true then
      some (0, Mv8)
    else
      ob (f_X8_laysAside n Mv8) fun x10 =>
      lt (x10) fun Mv11 =>
      if 0 ≤ (4 + a1).toInt ∧ (4 + a1).toInt < 102 then
        lt (si Mv11 1 (4 + a1).toNatClampNeg a2) fun Mv13 =>
        ob (f_X8_settles n Mv13) fun x14 =>
        lt (x14.2) fun Mv15 =>
        lt (x14.1) fun x16 =>
        ob (f_X8_brokenAside n Mv15) fun x17 =>
        ob (f_X8_laysBack n Mv15) fun x18 =>
        lt (x18) fun Mv19 =>
        some (x17, Mv19)
      else none
abbrev rm_X8_wouldBreak : Room := { frames := 9, cells := 0, slots := 0, locals := 219 }
set_option maxRecDepth 100000 in
set_option maxHeartbeats 4000000 in
theorem m_X8_wouldBreak (l : Launch) (D : va_G) (ca : Nat → ClassId) (am : Nat → Nat) (n : Nat) (M : RowS) (xs : va_W) (a1 : Int32) (a2 : Int32) (res : Int32) (M' : RowS) (h0 : f_X8_wouldBreak n M a1 a2 = some (res, M')) (sz : Nat) : Met l yX8_wouldBreak (ws_ yX8_wouldBreak cX8_wouldBreak 5 (some .int)) rm_X8_wouldBreak (PCw D ca (wM am ca M ++ xs) sz [.ref (am 0), .int a1, .int a2]) (QMw D (wM am ca M ++ xs) (wM am ca (M') ++ xs) sz (some (.int res))) 0 0 (AL (wM am ca M ++ xs) sz) := by
  refine met_of (by decide) (Nat.le_of_ble_eq_true rfl) (fun p e s m args below meth c K hr0 X hsz ls hl => ?_)
  have K : MC D ca p s m args meth c cX8_wouldBreak 5 RX8 := K
  have hx := K.1
  have hb := K.2.1
  have hl : lv_has ls 5 [(0, .ref (am 0)), (1, .int a1), (2, .int a2)] := hl
  generalize hQ : MQ below _ args s 0 0 _ = Q
  unfold f_X8_wouldBreak at h0
  suffices Z : ∀ (H : Heap) (locs : List Loc) (X : RW D (wM am ca M ++ xs) s.heap H locs), W p l e rm_X8_wouldBreak s m args below meth c H locs 0 0 Q (F0 m 0 ls []) from Z _ _ X
  intro H locs X
  refine lv_aload_n hx hb dX8_wouldBreak_0 rfl (lv_at hl 0 rfl) ?_
  refine lv_iconst (v := 0) hx hb dX8_wouldBreak_1 (by decide) ?_
  obtain ⟨Mv1, eMv1, h0⟩ := lt_out h0
  refine p_modi (ty := .int) K X 0 (by decide) (fun _ _ => rfl) (by decide +kernel) ⟨rfl, rfl⟩ eMv1 q1399 dX8_wouldBreak_2 (fun H locs X => ?_)
  refine lv_aload_n hx hb dX8_wouldBreak_5 rfl (lv_at hl 0 rfl) ?_
  refine lv_aload_n hx hb dX8_wouldBreak_6 rfl (lv_at hl 0 rfl) ?_
  refine lv_iload_n hx hb dX8_wouldBreak_7 rfl (lv_at hl 1 rfl) ?_
  obtain ⟨x2, ex2, h0⟩ := ob_out h0
  have kx2 := m_X8_isPoint l D ca am Mv1 xs a1 x2 ex2 H.size
  refine w_callV0 K X wM_fstx kx2 hl.1 1 q1689 q1691 q58 q97 q1692 hv_X8_isPoint ⟨⟨Nat.le_of_ble_eq_true rfl, Nat.le_of_ble_eq_true rfl⟩, rfl, rfl⟩ pl_modo rfl rfl rfl rfl (Nat.le_of_ble_eq_true rfl) dX8_wouldBreak_8 ⟨Nat.le_of_ble_eq_true rfl, Nat.le_of_ble_eq_true rfl⟩ rfl (fun H locs X => ?_)
  refine lv_iconst (v := 1) hx hb dX8_wouldBreak_11 (by decide) ?_
  obtain ⟨x3, ex3, h0⟩ := lt_out h0
  obtain ⟨Mv4, eMv4, h0⟩ := lt_out h0
  have kx3 := m_X8_fails l D ca am Mv1 xs (b2i x2) 1 x3.1 x3.2 ex3.symm H.size
  rw [← eMv4] at kx3
  refine w_callV0 K X wM_fstx kx3 hl.1 2 q1507 q1509 q22 q97 q1510 hv_X8_fails ⟨⟨Nat.le_of_ble_eq_true rfl, Nat.le_of_ble_eq_true rfl⟩, rfl, rfl⟩ pl_modo rfl rfl rfl rfl (Nat.le_of_ble_eq_true rfl) dX8_wouldBreak_12 ⟨Nat.le_of_ble_eq_true rfl, Nat.le_of_ble_eq_true rfl⟩ rfl (fun H locs X => ?_)
  refine w_zne (tgt := 30) K dX8_wouldBreak_15 (by decide) (fun c5 => ?_) (fun c5 => ?_)
  · have h0 := if_t c5 h0
    refine lv_iconst (v := 0) hx hb dX8_wouldBreak_30 (by decide) ?_
    have h0 := Option.some.inj h0
    obtain ⟨q_0, q_1⟩ := Prod.mk.inj h0
    subst q_0
    subst q_1
    subst hQ
    exact w_iret K hr0 X wM_fstx hsz dX8_wouldBreak_31
  · have h0 := if_f c5 h0
    refine lv_aload_n hx hb dX8_wouldBreak_18 rfl (lv_at hl 0 rfl) ?_
    refine lv_iload_n hx hb dX8_wouldBreak_19 rfl (lv_at hl 2 rfl) ?_
    obtain ⟨x6, ex6, h0⟩ := lt_out h0
    have kx6 := m_X8_isPressure l D ca (wM am ca Mv4 ++ xs) a2 x6 ex6.symm H.size
    refine w_callS0 K X wM_fstx kx6 hl.1 1 q1783 q1784 q97 q1785 hs_X8_isPressure ⟨⟨Nat.le_of_ble_eq_true rfl, Nat.le_of_ble_eq_true rfl⟩, rfl, rfl⟩ rfl rfl (Nat.le_of_ble_eq_true rfl) dX8_wouldBreak_20 ⟨Nat.le_of_ble_eq_true rfl, Nat.le_of_ble_eq_true rfl⟩ rfl (fun H locs X => ?_)
    refine lv_iconst (v := 2) hx hb dX8_wouldBreak_23 (by decide) ?_
    obtain ⟨x7, ex7, h0⟩ := lt_out h0
    obtain ⟨Mv8, eMv8, h0⟩ := lt_out h0
    have kx7 := m_X8_fails l D ca am Mv4 xs (b2i x6) 2 x7.1 x7.2 ex7.symm H.size
    rw [← eMv8] at kx7
    refine w_callV0 K X wM_fstx kx7 hl.1 2 q1507 q1509 q22 q97 q1510 hv_X8_fails ⟨⟨Nat.le_of_ble_eq_true rfl, Nat.le_of_ble_eq_true rfl⟩, rfl, rfl⟩ pl_modo rfl rfl rfl rfl (Nat.le_of_ble_eq_true rfl) dX8_wouldBreak_24 ⟨Nat.le_of_ble_eq_true rfl, Nat.le_of_ble_eq_true rfl⟩ rfl (fun H locs X => ?_)
    refine w_zeq (tgt := 32) K dX8_wouldBreak_27 (by decide) (fun c9 => ?_) (fun c9 => ?_)
    · have h0 := if_f c9 h0
      refine lv_aload_n hx hb dX8_wouldBreak_32 rfl (lv_at hl 0 rfl) ?_
      obtain ⟨x10, ex10, h0⟩ := ob_out h0
      obtain ⟨Mv11, eMv11, h0⟩ := lt_out h0
      have kx10 := m_X8_laysAside l D ca am n Mv8 xs x10 ex10 H.size
      rw [← eMv11] at kx10
      refine w_callV0 K X wM_fstx kx10 hl.1 0 q1511 q1513 q23 q97 q1514 hv_X8_laysAside ⟨⟨Nat.le_of_ble_eq_true rfl, Nat.le_of_ble_eq_true rfl⟩, rfl, rfl⟩ pl_modo rfl rfl rfl rfl (Nat.le_of_ble_eq_true rfl) dX8_wouldBreak_33 ⟨Nat.le_of_ble_eq_true rfl, Nat.le_of_ble_eq_true rfl⟩ rfl (fun H locs X => ?_)
      refine lv_aload_n hx hb dX8_wouldBreak_36 rfl (lv_at hl 0 rfl) ?_
      refine g_modr K X 1 (by decide) (fun _ _ => rfl) q1400 dX8_wouldBreak_37 ?_
      refine lv_iconst (v := 4) hx hb dX8_wouldBreak_40 (by decide) ?_
      refine lv_iload_n hx hb dX8_wouldBreak_41 rfl (lv_at hl 1 rfl) ?_
      refine lv_iadd hx hb dX8_wouldBreak_42 ?_
      refine lv_iload_n hx hb dX8_wouldBreak_43 rfl (lv_at hl 2 rfl) ?_
      obtain ⟨c12, h0⟩ := if_o h0
      obtain ⟨Mv13, eMv13, h0⟩ := lt_out h0
      refine s_modi K X 1 1 102 rfl (fun _ => rfl) (inb_vp c12) eMv13 dX8_wouldBreak_44 (fun H locs X => ?_)
      refine lv_aload_n hx hb dX8_wouldBreak_45 rfl (lv_at hl 0 rfl) ?_
      obtain ⟨x14, ex14, h0⟩ := ob_out h0
      obtain ⟨Mv15, eMv15, h0⟩ := lt_out h0
      have kx14 := m_X8_settles l D ca am n Mv13 xs x14.1 x14.2 ex14 H.size
      rw [← eMv15] at kx14
      refine w_callV0 K X wM_fstx kx14 hl.1 0 q1615 q1617 q43 q97 q1618 hv_X8_settles ⟨⟨Nat.le_of_ble_eq_true rfl, Nat.le_of_ble_eq_true rfl⟩, rfl, rfl⟩ pl_modo rfl rfl rfl rfl (Nat.le_of_ble_eq_true rfl) dX8_wouldBreak_46 ⟨Nat.le_of_ble_eq_true rfl, Nat.le_of_ble_eq_true rfl⟩ rfl (fun H locs X => ?_)
      obtain ⟨x16, ex16, h0⟩ := lt_out h0
      refine w_int ex16 ?_
      refine lv_istore_n (lv' := [(3, .int x16), (0, .ref (am 0)), (1, .int a1), (2, .int a2)]) hx hb dX8_wouldBreak_49 rfl hl (by decide) rfl (fun ls hl => ?_)
      refine lv_aload_n hx hb dX8_wouldBreak_50 rfl (lv_at hl 1 rfl) ?_
      obtain ⟨x17, ex17, h0⟩ := ob_out h0
      have kx17 := m_X8_brokenAside l D ca am n Mv15 xs x17 ex17 H.size
      refine w_callV0 K X wM_fstx kx17 hl.1 0 q1791 q1793 q68 q97 q1794 hv_X8_brokenAside ⟨⟨Nat.le_of_ble_eq_true rfl, Nat.le_of_ble_eq_true rfl⟩, rfl, rfl⟩ pl_modo rfl rfl rfl rfl (Nat.le_of_ble_eq_true rfl) dX8_wouldBreak_51 ⟨Nat.le_of_ble_eq_true rfl, Nat.le_of_ble_eq_true rfl⟩ rfl (fun H locs X => ?_)
      refine lv_istore (lv' := [(4, .int x17), (3, .int x16), (0, .ref (am 0)), (1, .int a1), (2, .int a2)]) hx hb dX8_wouldBreak_54 hl (by decide) rfl (fun ls hl => ?_)
      refine lv_aload_n hx hb dX8_wouldBreak_56 rfl (lv_at hl 2 rfl) ?_
      obtain ⟨x18, ex18, h0⟩ := ob_out h0
      obtain ⟨Mv19, eMv19, h0⟩ := lt_out h0
      have kx18 := m_X8_laysBack l D ca am n Mv15 xs x18 ex18 H.size
      rw [← eMv19] at kx18
      refine w_callV0 K X wM_fstx kx18 hl.1 0 q1611 q1613 q42 q97 q1614 hv_X8_laysBack ⟨⟨Nat.le_of_ble_eq_true rfl, Nat.le_of_ble_eq_true rfl⟩, rfl, rfl⟩ pl_modo rfl rfl rfl rfl (Nat.le_of_ble_eq_true rfl) dX8_wouldBreak_57 ⟨Nat.le_of_ble_eq_true rfl, Nat.le_of_ble_eq_true rfl⟩ rfl (fun H locs X => ?_)
      refine lv_iload hx hb dX8_wouldBreak_60 (lv_at hl 0 rfl) ?_
      have h0 := Option.some.inj h0
      obtain ⟨q_0, q_1⟩ := Prod.mk.inj h0
      subst q_0
      subst q_1
      subst hQ
      exact w_iret K hr0 X wM_fstx hsz dX8_wouldBreak_62
    · have h0 := if_t c9 h0
      refine lv_iconst (v := 0) hx hb dX8_wouldBreak_30 (by decide) ?_
      have h0 := Option.some.inj h0
      obtain ⟨q_0, q_1⟩ := Prod.mk.inj h0
      subst q_0
      subst q_1
      subst hQ
      exact w_iret K hr0 X wM_fstx hsz dX8_wouldBreak_31
-- X8_readingWith
def b_X8_readingWith_27 (n : Nat) (a1 : Int32) (a2 : Int32) (a3 : Int32) (y27_s1 : Int32) (M_27 : RowS) : Option (Int32 × RowS) :=
  lt (f_X8_fails M_27 y27_s1 1) fun x4 =>
  lt (x4.2) fun Mv5 =>
  if x4.1 = true then
    some (0, Mv5)
  else
    lt (f_X8_isPressure a3) fun x7 =>
    lt (f_X8_fails Mv5 (b2i x7) 2) fun x8 =>
    lt (x8.2) fun Mv9 =>
    if x8.1 = true then
      some (0, Mv9)
    else
      ob (f_X8_laysAside n Mv9) fun x11 =>
      lt (x11) fun Mv12 =>
      if 0 ≤ (4 + a2).toInt ∧ (4 + a2).toInt < 102 then
        lt (si Mv12 1 (4 + a2).toNatClampNeg a3) fun Mv14 =>
        ob (f_X8_settles n Mv14) fun x15 =>
        lt (x15.2) fun Mv16 =>
        lt (x15.1) fun x17 =>
        ob (f_X8_readingOf n Mv16 a1) fun x18 =>
        ob (f_X8_laysBack n Mv16) fun x19 =>
        lt (x19) fun Mv20 =>
        some (x18, Mv20)
      else none
def b_X8_readingWith_26 (n : Nat) (a1 : Int32) (a2 : Int32) (a3 : Int32) (M_26 : RowS) : Option (Int32 × RowS) :=
  b_X8_readingWith_27 n a1 a2 a3 0 M_26
def f_X8_readingWith (n : Nat) (M : RowS) (a1 : Int32) (a2 : Int32) (a3 : Int32) : Option (Int32 × RowS) :=
  lt (si M 0 0 0) fun Mv1 =>
  ob (f_X8_isTube Mv1 a1) fun x2 =>
  if x2 = true then
    ob (f_X8_isPoint Mv1 a2) fun x21 =>
    if x21 = true then
      b_X8_readingWith_27 n a1 a2 a3 1 Mv1
    else
      b_X8_readingWith_26 n a1 a2 a3 Mv1
  else
    b_X8_readingWith_26 n a1 a2 a3 Mv1
abbrev rm_X8_readingWith : Room := { frames := 9, cells := 0, slots := 0, locals := 219 }
set_option maxRecDepth 100000 in
set_option maxHeartbeats 4000000 in
theorem m_X8_readingWith (l : Launch) (D : va_G) (ca : Nat → ClassId) (am : Nat → Nat) (n : Nat) (M : RowS) (xs : va_W) (a1 : Int32) (a2 : Int32) (a3 : Int32) (res : Int32) (M' : RowS) (h0 : f_X8_readingWith n M a1 a2 a3 = some (res, M')) (sz : Nat) : Met l yX8_readingWith (ws_ yX8_readingWith cX8_readingWith 6 (some .int)) rm_X8_readingWith (PCw D ca (wM am ca M ++ xs) sz [.ref (am 0), .int a1, .int a2, .int a3]) (QMw D (wM am ca M ++ xs) (wM am ca (M') ++ xs) sz (some (.int res))) 0 0 (AL (wM am ca M ++ xs) sz) := by
  refine met_of (by decide) (Nat.le_of_ble_eq_true rfl) (fun p e s m args below meth c K hr0 X hsz ls hl => ?_)
  have K : MC D ca p s m args meth c cX8_readingWith 6 RX8 := K
  have hx := K.1
  have hb := K.2.1
  have hl : lv_has ls 6 [(0, .ref (am 0)), (1, .int a1), (2, .int a2), (3, .int a3)] := hl
  generalize hQ : MQ below _ args s 0 0 _ = Q
  unfold f_X8_readingWith at h0
  suffices Z : ∀ (H : Heap) (locs : List Loc) (X : RW D (wM am ca M ++ xs) s.heap H locs), W p l e rm_X8_readingWith s m args below meth c H locs 0 0 Q (F0 m 0 ls []) from Z _ _ X
  intro H locs X
  have J27 : ∀ (y27_s1 : Int32) (M_27 : RowS) (H : Heap) (locs : List Loc) (X : RW D (wM am ca M_27 ++ xs) s.heap H locs) (ls : Array Slot) (hl : lv_has ls 6 [(0, .ref (am 0)), (1, .int a1), (2, .int a2), (3, .int a3)]) (h0 : b_X8_readingWith_27 n a1 a2 a3 y27_s1 M_27 = some (res, M')), W p l e rm_X8_readingWith s m args below meth c H locs 0 0 Q (F0 m 27 ls [.int y27_s1, .ref (am 0)]) := by
    intro y27_s1 M_27 H locs X ls hl h0
    unfold b_X8_readingWith_27 at h0
    refine lv_iconst (v := 1) hx hb dX8_readingWith_27 (by decide) ?_
    obtain ⟨x4, ex4, h0⟩ := lt_out h0
    obtain ⟨Mv5, eMv5, h0⟩ := lt_out h0
    have kx4 := m_X8_fails l D ca am M_27 xs y27_s1 1 x4.1 x4.2 ex4.symm H.size
    rw [← eMv5] at kx4
    refine w_callV0 K X wM_fstx kx4 hl.1 2 q1507 q1509 q22 q97 q1510 hv_X8_fails ⟨⟨Nat.le_of_ble_eq_true rfl, Nat.le_of_ble_eq_true rfl⟩, rfl, rfl⟩ pl_modo rfl rfl rfl rfl (Nat.le_of_ble_eq_true rfl) dX8_readingWith_28 ⟨Nat.le_of_ble_eq_true rfl, Nat.le_of_ble_eq_true rfl⟩ rfl (fun H locs X => ?_)
    refine w_zne (tgt := 46) K dX8_readingWith_31 (by decide) (fun c6 => ?_) (fun c6 => ?_)
    · have h0 := if_t c6 h0
      refine lv_iconst (v := 0) hx hb dX8_readingWith_46 (by decide) ?_
      have h0 := Option.some.inj h0
      obtain ⟨q_0, q_1⟩ := Prod.mk.inj h0
      subst q_0
      subst q_1
      subst hQ
      exact w_iret K hr0 X wM_fstx hsz dX8_readingWith_47
    · have h0 := if_f c6 h0
      refine lv_aload_n hx hb dX8_readingWith_34 rfl (lv_at hl 0 rfl) ?_
      refine lv_iload_n hx hb dX8_readingWith_35 rfl (lv_at hl 3 rfl) ?_
      obtain ⟨x7, ex7, h0⟩ := lt_out h0
      have kx7 := m_X8_isPressure l D ca (wM am ca Mv5 ++ xs) a3 x7 ex7.symm H.size
      refine w_callS0 K X wM_fstx kx7 hl.1 1 q1783 q1784 q97 q1785 hs_X8_isPressure ⟨⟨Nat.le_of_ble_eq_true rfl, Nat.le_of_ble_eq_true rfl⟩, rfl, rfl⟩ rfl rfl (Nat.le_of_ble_eq_true rfl) dX8_readingWith_36 ⟨Nat.le_of_ble_eq_true rfl, Nat.le_of_ble_eq_true rfl⟩ rfl (fun H locs X => ?_)
      refine lv_iconst (v := 2) hx hb dX8_readingWith_39 (by decide) ?_
      obtain ⟨x8, ex8, h0⟩ := lt_out h0
      obtain ⟨Mv9, eMv9, h0⟩ := lt_out h0
      have kx8 := m_X8_fails l D ca am Mv5 xs (b2i x7) 2 x8.1 x8.2 ex8.symm H.size
      rw [← eMv9] at kx8
      refine w_callV0 K X wM_fstx kx8 hl.1 2 q1507 q1509 q22 q97 q1510 hv_X8_fails ⟨⟨Nat.le_of_ble_eq_true rfl, Nat.le_of_ble_eq_true rfl⟩, rfl, rfl⟩ pl_modo rfl rfl rfl rfl (Nat.le_of_ble_eq_true rfl) dX8_readingWith_40 ⟨Nat.le_of_ble_eq_true rfl, Nat.le_of_ble_eq_true rfl⟩ rfl (fun H locs X => ?_)
      refine w_zeq (tgt := 48) K dX8_readingWith_43 (by decide) (fun c10 => ?_) (fun c10 => ?_)
      · have h0 := if_f c10 h0
        refine lv_aload_n hx hb dX8_readingWith_48 rfl (lv_at hl 0 rfl) ?_
        obtain ⟨x11, ex11, h0⟩ := ob_out h0
        obtain ⟨Mv12, eMv12, h0⟩ := lt_out h0
        have kx11 := m_X8_laysAside l D ca am n Mv9 xs x11 ex11 H.size
        rw [← eMv12] at kx11
        refine w_callV0 K X wM_fstx kx11 hl.1 0 q1511 q1513 q23 q97 q1514 hv_X8_laysAside ⟨⟨Nat.le_of_ble_eq_true rfl, Nat.le_of_ble_eq_true rfl⟩, rfl, rfl⟩ pl_modo rfl rfl rfl rfl (Nat.le_of_ble_eq_true rfl) dX8_readingWith_49 ⟨Nat.le_of_ble_eq_true rfl, Nat.le_of_ble_eq_true rfl⟩ rfl (fun H locs X => ?_)
        refine lv_aload_n hx hb dX8_readingWith_52 rfl (lv_at hl 0 rfl) ?_
        refine g_modr K X 1 (by decide) (fun _ _ => rfl) q1400 dX8_readingWith_53 ?_
        refine lv_iconst (v := 4) hx hb dX8_readingWith_56 (by decide) ?_
        refine lv_iload_n hx hb dX8_readingWith_57 rfl (lv_at hl 2 rfl) ?_
        refine lv_iadd hx hb dX8_readingWith_58 ?_
        refine lv_iload_n hx hb dX8_readingWith_59 rfl (lv_at hl 3 rfl) ?_
        obtain ⟨c13, h0⟩ := if_o h0
        obtain ⟨Mv14, eMv14, h0⟩ := lt_out h0
        refine s_modi K X 1 1 102 rfl (fun _ => rfl) (inb_vp c13) eMv14 dX8_readingWith_60 (fun H locs X => ?_)
        refine lv_aload_n hx hb dX8_readingWith_61 rfl (lv_at hl 0 rfl) ?_
        obtain ⟨x15, ex15, h0⟩ := ob_out h0
        obtain ⟨Mv16, eMv16, h0⟩ := lt_out h0
        have kx15 := m_X8_settles l D ca am n Mv14 xs x15.1 x15.2 ex15 H.size
        rw [← eMv16] at kx15
        refine w_callV0 K X wM_fstx kx15 hl.1 0 q1615 q1617 q43 q97 q1618 hv_X8_settles ⟨⟨Nat.le_of_ble_eq_true rfl, Nat.le_of_ble_eq_true rfl⟩, rfl, rfl⟩ pl_modo rfl rfl rfl rfl (Nat.le_of_ble_eq_true rfl) dX8_readingWith_62 ⟨Nat.le_of_ble_eq_true rfl, Nat.le_of_ble_eq_true rfl⟩ rfl (fun H locs X => ?_)
        obtain ⟨x17, ex17, h0⟩ := lt_out h0
        refine w_int ex17 ?_
        refine lv_istore (lv' := [(4, .int x17), (0, .ref (am 0)), (1, .int a1), (2, .int a2), (3, .int a3)]) hx hb dX8_readingWith_65 hl (by decide) rfl (fun ls hl => ?_)
        refine lv_aload_n hx hb dX8_readingWith_67 rfl (lv_at hl 1 rfl) ?_
        refine lv_iload_n hx hb dX8_readingWith_68 rfl (lv_at hl 2 rfl) ?_
        obtain ⟨x18, ex18, h0⟩ := ob_out h0
        have kx18 := m_X8_readingOf l D ca am n Mv16 xs a1 x18 ex18 H.size
        refine w_callV0 K X wM_fstx kx18 hl.1 1 q1723 q1725 q62 q97 q1726 hv_X8_readingOf ⟨⟨Nat.le_of_ble_eq_true rfl, Nat.le_of_ble_eq_true rfl⟩, rfl, rfl⟩ pl_modo rfl rfl rfl rfl (Nat.le_of_ble_eq_true rfl) dX8_readingWith_69 ⟨Nat.le_of_ble_eq_true rfl, Nat.le_of_ble_eq_true rfl⟩ rfl (fun H locs X => ?_)
        refine lv_istore (lv' := [(5, .int x18), (4, .int x17), (0, .ref (am 0)), (1, .int a1), (2, .int a2), (3, .int a3)]) hx hb dX8_readingWith_72 hl (by decide) rfl (fun ls hl => ?_)
        refine lv_aload_n hx hb dX8_readingWith_74 rfl (lv_at hl 2 rfl) ?_
        obtain ⟨x19, ex19, h0⟩ := ob_out h0
        obtain ⟨Mv20, eMv20, h0⟩ := lt_out h0
        have kx19 := m_X8_laysBack l D ca am n Mv16 xs x19 ex19 H.size
        rw [← eMv20] at kx19
        refine w_callV0 K X wM_fstx kx19 hl.1 0 q1611 q1613 q42 q97 q1614 hv_X8_laysBack ⟨⟨Nat.le_of_ble_eq_true rfl, Nat.le_of_ble_eq_true rfl⟩, rfl, rfl⟩ pl_modo rfl rfl rfl rfl (Nat.le_of_ble_eq_true rfl) dX8_readingWith_75 ⟨Nat.le_of_ble_eq_true rfl, Nat.le_of_ble_eq_true rfl⟩ rfl (fun H locs X => ?_)
        refine lv_iload hx hb dX8_readingWith_78 (lv_at hl 0 rfl) ?_
        have h0 := Option.some.inj h0
        obtain ⟨q_0, q_1⟩ := Prod.mk.inj h0
        subst q_0
        subst q_1
        subst hQ
        exact w_iret K hr0 X wM_fstx hsz dX8_readingWith_80
      · have h0 := if_t c10 h0
        refine lv_iconst (v := 0) hx hb dX8_readingWith_46 (by decide) ?_
        have h0 := Option.some.inj h0
        obtain ⟨q_0, q_1⟩ := Prod.mk.inj h0
        subst q_0
        subst q_1
        subst hQ
        exact w_iret K hr0 X wM_fstx hsz dX8_readingWith_47
  have J26 : ∀ (M_26 : RowS) (H : Heap) (locs : List Loc) (X : RW D (wM am ca M_26 ++ xs) s.heap H locs) (ls : Array Slot) (hl : lv_has ls 6 [(0, .ref (am 0)), (1, .int a1), (2, .int a2), (3, .int a3)]) (h0 : b_X8_readingWith_26 n a1 a2 a3 M_26 = some (res, M')), W p l e rm_X8_readingWith s m args below meth c H locs 0 0 Q (F0 m 26 ls [.ref (am 0)]) := by
    intro M_26 H locs X ls hl h0
    unfold b_X8_readingWith_26 at h0
    refine lv_iconst (v := 0) hx hb dX8_readingWith_26 (by decide) ?_
    exact J27 0 M_26 H locs X ls (lv_sub hl [0, 1, 2, 3] rfl) h0
  refine lv_aload_n hx hb dX8_readingWith_0 rfl (lv_at hl 0 rfl) ?_
  refine lv_iconst (v := 0) hx hb dX8_readingWith_1 (by decide) ?_
  obtain ⟨Mv1, eMv1, h0⟩ := lt_out h0
  refine p_modi (ty := .int) K X 0 (by decide) (fun _ _ => rfl) (by decide +kernel) ⟨rfl, rfl⟩ eMv1 q1399 dX8_readingWith_2 (fun H locs X => ?_)
  refine lv_aload_n hx hb dX8_readingWith_5 rfl (lv_at hl 0 rfl) ?_
  refine lv_aload_n hx hb dX8_readingWith_6 rfl (lv_at hl 0 rfl) ?_
  refine lv_iload_n hx hb dX8_readingWith_7 rfl (lv_at hl 1 rfl) ?_
  obtain ⟨x2, ex2, h0⟩ := ob_out h0
  have kx2 := m_X8_isTube l D ca am Mv1 xs a1 x2 ex2 H.size
  refine w_callV0 K X wM_fstx kx2 hl.1 1 q1714 q1716 q60 q97 q1717 hv_X8_isTube ⟨⟨Nat.le_of_ble_eq_true rfl, Nat.le_of_ble_eq_true rfl⟩, rfl, rfl⟩ pl_modo rfl rfl rfl rfl (Nat.le_of_ble_eq_true rfl) dX8_readingWith_8 ⟨Nat.le_of_ble_eq_true rfl, Nat.le_of_ble_eq_true rfl⟩ rfl (fun H locs X => ?_)
  refine w_zeq (tgt := 26) K dX8_readingWith_11 (by decide) (fun c3 => ?_) (fun c3 => ?_)
  · have h0 := if_f c3 h0
    exact J26 Mv1 H locs X ls (lv_sub hl [0, 1, 2, 3] rfl) h0
  · have h0 := if_t c3 h0
    refine lv_aload_n hx hb dX8_readingWith_14 rfl (lv_at hl 0 rfl) ?_
    refine lv_iload_n hx hb dX8_readingWith_15 rfl (lv_at hl 2 rfl) ?_
    obtain ⟨x21, ex21, h0⟩ := ob_out h0
    have kx21 := m_X8_isPoint l D ca am Mv1 xs a2 x21 ex21 H.size
    refine w_callV0 K X wM_fstx kx21 hl.1 1 q1689 q1691 q58 q97 q1692 hv_X8_isPoint ⟨⟨Nat.le_of_ble_eq_true rfl, Nat.le_of_ble_eq_true rfl⟩, rfl, rfl⟩ pl_modo rfl rfl rfl rfl (Nat.le_of_ble_eq_true rfl) dX8_readingWith_16 ⟨Nat.le_of_ble_eq_true rfl, Nat.le_of_ble_eq_true rfl⟩ rfl (fun H locs X => ?_)
    refine w_zeq (tgt := 26) K dX8_readingWith_19 (by decide) (fun c22 => ?_) (fun c22 => ?_)
    · have h0 := if_f c22 h0
      exact J26 Mv1 H locs X ls (lv_sub hl [0, 1, 2, 3] rfl) h0
    · have h0 := if_t c22 h0
      refine lv_iconst (v := 1) hx hb dX8_readingWith_22 (by decide) ?_
      refine lv_goto (tgt := 27) hx hb dX8_readingWith_23 (by decide) ?_
      exact J27 1 Mv1 H locs X ls (lv_sub hl [0, 1, 2, 3] rfl) h0
-- X8_held
def f_X8_held (a1 : Int32) : Int32 :=
  if 0 ≤ a1 then
    if a1 ≤ 99999 then
      a1
    else
      99999
  else
    0
abbrev rm_X8_held : Room := { frames := 0, cells := 0, slots := 0, locals := 0 }
set_option maxRecDepth 100000 in
set_option maxHeartbeats 4000000 in
theorem m_X8_held (l : Launch) (D : va_G) (ca : Nat → ClassId) (ws : va_W) (a1 : Int32) (res : Int32) (h0 : f_X8_held a1 = res) (sz : Nat) : Met l yX8_held (ws_ yX8_held cX8_held 1 (some .int)) rm_X8_held (PCw D ca (ws) sz [.int a1]) (QMw D (ws) (ws) sz (some (.int res))) 0 0 (AL (ws) sz) := by
  refine met_of (by decide) (Nat.le_of_ble_eq_true rfl) (fun p e s m args below meth c K hr0 X hsz ls hl => ?_)
  have K : MC D ca p s m args meth c cX8_held 1 RX8 := K
  have hx := K.1
  have hb := K.2.1
  have hl : lv_has ls 1 [(0, .int a1)] := hl
  generalize hQ : MQ below _ args s 0 0 _ = Q
  unfold f_X8_held at h0
  suffices Z : ∀ (H : Heap) (locs : List Loc) (X : RW D (ws) s.heap H locs), W p l e rm_X8_held s m args below meth c H locs 0 0 Q (F0 m 0 ls []) from Z _ _ X
  intro H locs X
  refine lv_iload_n hx hb dX8_held_0 rfl (lv_at hl 0 rfl) ?_
  refine lv_if_ge (tgt := 8) hx hb dX8_held_1 (by decide) (fun c1 => ?_) (fun c1 => ?_)
  · have h0 := if_t c1 h0
    refine lv_iload_n hx hb dX8_held_8 rfl (lv_at hl 0 rfl) ?_
    refine lv_ldc hx hb K.2.2.2.1 (K.2.2.2.2.1 _ q1575) dX8_held_9 ?_
    refine lv_icmp_le (tgt := 19) hx hb dX8_held_11 (by decide) (fun c2 => ?_) (fun c2 => ?_)
    · have h0 := if_t c2 h0
      refine lv_iload_n hx hb dX8_held_19 rfl (lv_at hl 0 rfl) ?_
      subst h0
      subst hQ
      exact w_iret K hr0 X rfl hsz dX8_held_20
    · have h0 := if_f c2 h0
      refine lv_ldc hx hb K.2.2.2.1 (K.2.2.2.2.1 _ q1575) dX8_held_14 ?_
      refine lv_goto (tgt := 20) hx hb dX8_held_16 (by decide) ?_
      subst h0
      subst hQ
      exact w_iret K hr0 X rfl hsz dX8_held_20
  · have h0 := if_f c1 h0
    refine lv_iconst (v := 0) hx hb dX8_held_4 (by decide) ?_
    refine lv_goto (tgt := 20) hx hb dX8_held_5 (by decide) ?_
    subst h0
    subst hQ
    exact w_iret K hr0 X rfl hsz dX8_held_20
-- X8_breaksIn
def b_X8_breaksIn_92 (n : Nat) (y92_l3 : Int32) (y92_l4 : Int32) (M_92 : RowS) : Option (Int32 × RowS) :=
  ob (f_X8_laysBack n M_92) fun x13 =>
  lt (x13) fun Mv14 =>
  if y92_l4 ≤ 0 then
    some ((-1), Mv14)
  else
    some (y92_l3, Mv14)
def l_X8_breaksIn_48 (n : Nat) (a1 : Int32) (a2 : Int32) (z48_3 : Int32) (z48_4 : Int32) (Mz_48 : RowS) : Option ((Int32 × Int32 × RowS) ⊕ (Int32 × Int32 × RowS)) :=
  if 60 ≤ z48_3 then
    some (.inr (z48_3, z48_4, Mz_48))
  else
    if z48_4 = 0 then
      if 0 ≤ (4 + a1).toInt ∧ (4 + a1).toInt < 102 then
        lt (f_X8_held ((Mz_48.1 1 (4 + a1).toNatClampNeg) + a2)) fun x18 =>
        if 0 ≤ (4 + a1).toInt ∧ (4 + a1).toInt < 102 then
          lt (si Mz_48 1 (4 + a1).toNatClampNeg x18) fun Mv20 =>
          ob (f_X8_settles n Mv20) fun x21 =>
          lt (x21.2) fun Mv22 =>
          lt (x21.1) fun x23 =>
          lt (z48_3 + 1) fun x24 =>
          some (.inl (x24, x23, Mv22))
        else none
      else none
    else
      some (.inr (z48_3, z48_4, Mz_48))
def f_X8_breaksIn (n : Nat) (M : RowS) (a1 : Int32) (a2 : Int32) : Option (Int32 × RowS) :=
  lt (si M 0 0 0) fun Mv1 =>
  ob (f_X8_isPoint Mv1 a1) fun x2 =>
  lt (f_X8_fails Mv1 (b2i x2) 1) fun x3 =>
  lt (x3.2) fun Mv4 =>
  if x3.1 = true then
    some (0, Mv4)
  else
    lt (f_X8_in a2.toInt64 (-9999) 9999) fun x6 =>
    lt (f_X8_fails Mv4 (b2i x6) 2) fun x7 =>
    lt (x7.2) fun Mv8 =>
    if x7.1 = true then
      some (0, Mv8)
    else
      ob (f_X8_laysAside n Mv8) fun x10 =>
      lt (x10) fun Mv11 =>
      ob (wloop (fun t => l_X8_breaksIn_48 n a1 a2 t.1 t.2.1 t.2.2) n (0, 0, Mv11)) (fun t => b_X8_breaksIn_92 n t.1 t.2.1 t.2.2)
abbrev rm_X8_breaksIn : Room := { frames := 9, cells := 0, slots := 0, locals := 219 }
set_option maxRecDepth 100000 in
set_option maxHeartbeats 4000000 in
theorem m_X8_breaksIn (l : Launch) (D : va_G) (ca : Nat → ClassId) (am : Nat → Nat) (n : Nat) (M : RowS) (xs : va_W) (a1 : Int32) (a2 : Int32) (res : Int32) (M' : RowS) (h0 : f_X8_breaksIn n M a1 a2 = some (res, M')) (sz : Nat) : Met l yX8_breaksIn (ws_ yX8_breaksIn cX8_breaksIn 5 (some .int)) rm_X8_breaksIn (PCw D ca (wM am ca M ++ xs) sz [.ref (am 0), .int a1, .int a2]) (QMw D (wM am ca M ++ xs) (wM am ca (M') ++ xs) sz (some (.int res))) 0 0 (AL (wM am ca M ++ xs) sz) := by
  refine met_of (by decide) (Nat.le_of_ble_eq_true rfl) (fun p e s m args below meth c K hr0 X hsz ls hl => ?_)
  have K : MC D ca p s m args meth c cX8_breaksIn 5 RX8 := K
  have hx := K.1
  have hb := K.2.1
  have hl : lv_has ls 5 [(0, .ref (am 0)), (1, .int a1), (2, .int a2)] := hl
  generalize hQ : MQ below _ args s 0 0 _ = Q
  unfold f_X8_breaksIn at h0
  suffices Z : ∀ (H : Heap) (locs : List Loc) (X : RW D (wM am ca M ++ xs) s.heap H locs), W p l e rm_X8_breaksIn s m args below meth c H locs 0 0 Q (F0 m 0 ls []) from Z _ _ X
  intro H locs X
  have J92 : ∀ (y92_l3 : Int32) (y92_l4 : Int32) (M_92 : RowS) (H : Heap) (locs : List Loc) (X : RW D (wM am ca M_92 ++ xs) s.heap H locs) (ls : Array Slot) (hl : lv_has ls 5 [(0, .ref (am 0)), (3, .int y92_l3), (4, .int y92_l4)]) (h0 : b_X8_breaksIn_92 n y92_l3 y92_l4 M_92 = some (res, M')), W p l e rm_X8_breaksIn s m args below meth c H locs 0 0 Q (F0 m 92 ls []) := by
    intro y92_l3 y92_l4 M_92 H locs X ls hl h0
    unfold b_X8_breaksIn_92 at h0
    refine lv_aload_n hx hb dX8_breaksIn_92 rfl (lv_at hl 0 rfl) ?_
    obtain ⟨x13, ex13, h0⟩ := ob_out h0
    obtain ⟨Mv14, eMv14, h0⟩ := lt_out h0
    have kx13 := m_X8_laysBack l D ca am n M_92 xs x13 ex13 H.size
    rw [← eMv14] at kx13
    refine w_callV0 K X wM_fstx kx13 hl.1 0 q1611 q1613 q42 q97 q1614 hv_X8_laysBack ⟨⟨Nat.le_of_ble_eq_true rfl, Nat.le_of_ble_eq_true rfl⟩, rfl, rfl⟩ pl_modo rfl rfl rfl rfl (Nat.le_of_ble_eq_true rfl) dX8_breaksIn_93 ⟨Nat.le_of_ble_eq_true rfl, Nat.le_of_ble_eq_true rfl⟩ rfl (fun H locs X => ?_)
    refine lv_iload hx hb dX8_breaksIn_96 (lv_at hl 2 rfl) ?_
    refine lv_if_le (tgt := 105) hx hb dX8_breaksIn_98 (by decide) (fun c15 => ?_) (fun c15 => ?_)
    · have h0 := if_t c15 h0
      refine lv_iconst (v := (-1)) hx hb dX8_breaksIn_105 (by decide) ?_
      have h0 := Option.some.inj h0
      obtain ⟨q_0, q_1⟩ := Prod.mk.inj h0
      subst q_0
      subst q_1
      subst hQ
      exact w_iret K hr0 X wM_fstx hsz dX8_breaksIn_106
    · have h0 := if_f c15 h0
      refine lv_iload_n hx hb dX8_breaksIn_101 rfl (lv_at hl 1 rfl) ?_
      refine lv_goto (tgt := 106) hx hb dX8_breaksIn_102 (by decide) ?_
      have h0 := Option.some.inj h0
      obtain ⟨q_0, q_1⟩ := Prod.mk.inj h0
      subst q_0
      subst q_1
      subst hQ
      exact w_iret K hr0 X wM_fstx hsz dX8_breaksIn_106
  refine lv_aload_n hx hb dX8_breaksIn_0 rfl (lv_at hl 0 rfl) ?_
  refine lv_iconst (v := 0) hx hb dX8_breaksIn_1 (by decide) ?_
  obtain ⟨Mv1, eMv1, h0⟩ := lt_out h0
  refine p_modi (ty := .int) K X 0 (by decide) (fun _ _ => rfl) (by decide +kernel) ⟨rfl, rfl⟩ eMv1 q1399 dX8_breaksIn_2 (fun H locs X => ?_)
  refine lv_aload_n hx hb dX8_breaksIn_5 rfl (lv_at hl 0 rfl) ?_
  refine lv_aload_n hx hb dX8_breaksIn_6 rfl (lv_at hl 0 rfl) ?_
  refine lv_iload_n hx hb dX8_breaksIn_7 rfl (lv_at hl 1 rfl) ?_
  obtain ⟨x2, ex2, h0⟩ := ob_out h0
  have kx2 := m_X8_isPoint l D ca am Mv1 xs a1 x2 ex2 H.size
  refine w_callV0 K X wM_fstx kx2 hl.1 1 q1689 q1691 q58 q97 q1692 hv_X8_isPoint ⟨⟨Nat.le_of_ble_eq_true rfl, Nat.le_of_ble_eq_true rfl⟩, rfl, rfl⟩ pl_modo rfl rfl rfl rfl (Nat.le_of_ble_eq_true rfl) dX8_breaksIn_8 ⟨Nat.le_of_ble_eq_true rfl, Nat.le_of_ble_eq_true rfl⟩ rfl (fun H locs X => ?_)
  refine lv_iconst (v := 1) hx hb dX8_breaksIn_11 (by decide) ?_
  obtain ⟨x3, ex3, h0⟩ := lt_out h0
  obtain ⟨Mv4, eMv4, h0⟩ := lt_out h0
  have kx3 := m_X8_fails l D ca am Mv1 xs (b2i x2) 1 x3.1 x3.2 ex3.symm H.size
  rw [← eMv4] at kx3
  refine w_callV0 K X wM_fstx kx3 hl.1 2 q1507 q1509 q22 q97 q1510 hv_X8_fails ⟨⟨Nat.le_of_ble_eq_true rfl, Nat.le_of_ble_eq_true rfl⟩, rfl, rfl⟩ pl_modo rfl rfl rfl rfl (Nat.le_of_ble_eq_true rfl) dX8_breaksIn_12 ⟨Nat.le_of_ble_eq_true rfl, Nat.le_of_ble_eq_true rfl⟩ rfl (fun H locs X => ?_)
  refine w_zne (tgt := 37) K dX8_breaksIn_15 (by decide) (fun c5 => ?_) (fun c5 => ?_)
  · have h0 := if_t c5 h0
    refine lv_iconst (v := 0) hx hb dX8_breaksIn_37 (by decide) ?_
    have h0 := Option.some.inj h0
    obtain ⟨q_0, q_1⟩ := Prod.mk.inj h0
    subst q_0
    subst q_1
    subst hQ
    exact w_iret K hr0 X wM_fstx hsz dX8_breaksIn_38
  · have h0 := if_f c5 h0
    refine lv_aload_n hx hb dX8_breaksIn_18 rfl (lv_at hl 0 rfl) ?_
    refine lv_iload_n hx hb dX8_breaksIn_19 rfl (lv_at hl 2 rfl) ?_
    refine lv_i2l hx hb dX8_breaksIn_20 rfl ?_
    refine lv_ldc2 hx hb K.2.2.2.1 (K.2.2.2.2.1 _ q1803) dX8_breaksIn_21 ?_
    refine lv_ldc2 hx hb K.2.2.2.1 (K.2.2.2.2.1 _ q1804) dX8_breaksIn_24 ?_
    obtain ⟨x6, ex6, h0⟩ := lt_out h0
    have kx6 := m_X8_in l D ca (wM am ca Mv4 ++ xs) a2.toInt64 (-9999) 9999 x6 ex6.symm H.size
    refine w_callS0 K X wM_fstx kx6 hl.1 3 q1504 q1505 q97 q1506 hs_X8_in ⟨⟨Nat.le_of_ble_eq_true rfl, Nat.le_of_ble_eq_true rfl⟩, rfl, rfl⟩ rfl rfl (Nat.le_of_ble_eq_true rfl) dX8_breaksIn_27 ⟨Nat.le_of_ble_eq_true rfl, Nat.le_of_ble_eq_true rfl⟩ rfl (fun H locs X => ?_)
    refine lv_iconst (v := 2) hx hb dX8_breaksIn_30 (by decide) ?_
    obtain ⟨x7, ex7, h0⟩ := lt_out h0
    obtain ⟨Mv8, eMv8, h0⟩ := lt_out h0
    have kx7 := m_X8_fails l D ca am Mv4 xs (b2i x6) 2 x7.1 x7.2 ex7.symm H.size
    rw [← eMv8] at kx7
    refine w_callV0 K X wM_fstx kx7 hl.1 2 q1507 q1509 q22 q97 q1510 hv_X8_fails ⟨⟨Nat.le_of_ble_eq_true rfl, Nat.le_of_ble_eq_true rfl⟩, rfl, rfl⟩ pl_modo rfl rfl rfl rfl (Nat.le_of_ble_eq_true rfl) dX8_breaksIn_31 ⟨Nat.le_of_ble_eq_true rfl, Nat.le_of_ble_eq_true rfl⟩ rfl (fun H locs X => ?_)
    refine w_zeq (tgt := 39) K dX8_breaksIn_34 (by decide) (fun c9 => ?_) (fun c9 => ?_)
    · have h0 := if_f c9 h0
      refine lv_aload_n hx hb dX8_breaksIn_39 rfl (lv_at hl 0 rfl) ?_
      obtain ⟨x10, ex10, h0⟩ := ob_out h0
      obtain ⟨Mv11, eMv11, h0⟩ := lt_out h0
      have kx10 := m_X8_laysAside l D ca am n Mv8 xs x10 ex10 H.size
      rw [← eMv11] at kx10
      refine w_callV0 K X wM_fstx kx10 hl.1 0 q1511 q1513 q23 q97 q1514 hv_X8_laysAside ⟨⟨Nat.le_of_ble_eq_true rfl, Nat.le_of_ble_eq_true rfl⟩, rfl, rfl⟩ pl_modo rfl rfl rfl rfl (Nat.le_of_ble_eq_true rfl) dX8_breaksIn_40 ⟨Nat.le_of_ble_eq_true rfl, Nat.le_of_ble_eq_true rfl⟩ rfl (fun H locs X => ?_)
      refine lv_iconst (v := 0) hx hb dX8_breaksIn_43 (by decide) ?_
      refine lv_istore_n (lv' := [(3, .int 0), (0, .ref (am 0)), (1, .int a1), (2, .int a2)]) hx hb dX8_breaksIn_44 rfl hl (by decide) rfl (fun ls hl => ?_)
      refine lv_iconst (v := 0) hx hb dX8_breaksIn_45 (by decide) ?_
      refine lv_istore (lv' := [(4, .int 0), (3, .int 0), (0, .ref (am 0)), (1, .int a1), (2, .int a2)]) hx hb dX8_breaksIn_46 hl (by decide) rfl (fun ls hl => ?_)
      obtain ⟨e_1, he1, h0⟩ := ob_out h0
      have K48 : ∀ (k : Nat) (z48_3 : Int32) (z48_4 : Int32) (Mz_48 : RowS) (H : Heap) (locs : List Loc) (X : RW D (wM am ca Mz_48 ++ xs) s.heap H locs) (ls : Array Slot) (hl : lv_has ls 5 [(0, .ref (am 0)), (1, .int a1), (2, .int a2), (3, .int z48_3), (4, .int z48_4)]) (hw : wloop (fun t => l_X8_breaksIn_48 n a1 a2 t.1 t.2.1 t.2.2) k (z48_3, z48_4, Mz_48) = some e_1), W p l e rm_X8_breaksIn s m args below meth c H locs 0 0 Q (F0 m 48 ls []) := by
        intro k
        induction k with
        | zero => intro z48_3 z48_4 Mz_48 H locs X ls hl hw; exact (wloop_0 hw).elim
        | succ k ih1 =>
          intro z48_3 z48_4 Mz_48 H locs X ls hl hw
          obtain ⟨x_1, h1, hx1⟩ := wloop_out hw
          have h1 : l_X8_breaksIn_48 n a1 a2 z48_3 z48_4 Mz_48 = some x_1 := h1
          unfold l_X8_breaksIn_48 at h1
          refine lv_iload_n hx hb dX8_breaksIn_48 rfl (lv_at hl 3 rfl) ?_
          refine lv_bipush (v := 60) hx hb dX8_breaksIn_49 (by decide) ?_
          refine lv_icmp_ge (tgt := 92) hx hb dX8_breaksIn_51 (by decide) (fun c12 => ?_) (fun c12 => ?_)
          · have h1 := if_t c12 h1
            have q1 := wl_r h1 hx1
            exact J92 z48_3 z48_4 Mz_48 H locs X ls (lv_sub hl [0, 3, 4] rfl) (by rw [q1] at h0; exact h0)
          · have h1 := if_f c12 h1
            refine lv_iload hx hb dX8_breaksIn_54 (lv_at hl 4 rfl) ?_
            refine lv_if_ne (tgt := 92) hx hb dX8_breaksIn_56 (by decide) (fun c16 => ?_) (fun c16 => ?_)
            · have h1 := if_f c16 h1
              have q1 := wl_r h1 hx1
              exact J92 z48_3 z48_4 Mz_48 H locs X ls (lv_sub hl [0, 3, 4] rfl) (by rw [q1] at h0; exact h0)
            · have h1 := if_t c16 h1
              refine lv_aload_n hx hb dX8_breaksIn_59 rfl (lv_at hl 0 rfl) ?_
              refine g_modr K X 1 (by decide) (fun _ _ => rfl) q1400 dX8_breaksIn_60 ?_
              refine lv_iconst (v := 4) hx hb dX8_breaksIn_63 (by decide) ?_
              refine lv_iload_n hx hb dX8_breaksIn_64 rfl (lv_at hl 1 rfl) ?_
              refine lv_iadd hx hb dX8_breaksIn_65 ?_
              refine lv_aload_n hx hb dX8_breaksIn_66 rfl (lv_at hl 0 rfl) ?_
              refine g_modr K X 1 (by decide) (fun _ _ => rfl) q1400 dX8_breaksIn_67 ?_
              refine lv_iconst (v := 4) hx hb dX8_breaksIn_70 (by decide) ?_
              refine lv_iload_n hx hb dX8_breaksIn_71 rfl (lv_at hl 1 rfl) ?_
              refine lv_iadd hx hb dX8_breaksIn_72 ?_
              obtain ⟨c17, h1⟩ := if_o h1
              refine a_modi K X 1 1 102 rfl rfl (inb_vp c17) dX8_breaksIn_73 ?_
              refine lv_iload_n hx hb dX8_breaksIn_74 rfl (lv_at hl 2 rfl) ?_
              refine lv_iadd hx hb dX8_breaksIn_75 ?_
              obtain ⟨x18, ex18, h1⟩ := lt_out h1
              have kx18 := m_X8_held l D ca (wM am ca Mz_48 ++ xs) ((Mz_48.1 1 (4 + a1).toNatClampNeg) + a2) x18 ex18.symm H.size
              refine w_callS0 K X wM_fstx kx18 hl.1 1 q1805 q1806 q97 q1807 hs_X8_held ⟨⟨Nat.le_of_ble_eq_true rfl, Nat.le_of_ble_eq_true rfl⟩, rfl, rfl⟩ rfl rfl (Nat.le_of_ble_eq_true rfl) dX8_breaksIn_76 ⟨Nat.le_of_ble_eq_true rfl, Nat.le_of_ble_eq_true rfl⟩ rfl (fun H locs X => ?_)
              obtain ⟨c19, h1⟩ := if_o h1
              obtain ⟨Mv20, eMv20, h1⟩ := lt_out h1
              refine s_modi K X 1 1 102 rfl (fun _ => rfl) (inb_vp c19) eMv20 dX8_breaksIn_79 (fun H locs X => ?_)
              refine lv_aload_n hx hb dX8_breaksIn_80 rfl (lv_at hl 0 rfl) ?_
              obtain ⟨x21, ex21, h1⟩ := ob_out h1
              obtain ⟨Mv22, eMv22, h1⟩ := lt_out h1
              have kx21 := m_X8_settles l D ca am n Mv20 xs x21.1 x21.2 ex21 H.size
              rw [← eMv22] at kx21
              refine w_callV0 K X wM_fstx kx21 hl.1 0 q1615 q1617 q43 q97 q1618 hv_X8_settles ⟨⟨Nat.le_of_ble_eq_true rfl, Nat.le_of_ble_eq_true rfl⟩, rfl, rfl⟩ pl_modo rfl rfl rfl rfl (Nat.le_of_ble_eq_true rfl) dX8_breaksIn_81 ⟨Nat.le_of_ble_eq_true rfl, Nat.le_of_ble_eq_true rfl⟩ rfl (fun H locs X => ?_)
              obtain ⟨x23, ex23, h1⟩ := lt_out h1
              refine w_int ex23 ?_
              refine lv_istore (lv' := [(4, .int x23), (0, .ref (am 0)), (1, .int a1), (2, .int a2), (3, .int z48_3)]) hx hb dX8_breaksIn_84 hl (by decide) rfl (fun ls hl => ?_)
              obtain ⟨x24, ex24, h1⟩ := lt_out h1
              refine lv_iinc (v := x24) (lv' := [(3, .int x24), (4, .int x23), (0, .ref (am 0)), (1, .int a1), (2, .int a2)]) hx hb dX8_breaksIn_86 hl (k := 4) rfl (by rw [ex24]; rfl) (by decide) rfl (fun ls hl => ?_)
              refine lv_goto (tgt := 48) hx hb dX8_breaksIn_89 (by decide) ?_
              exact ih1 x24 x23 Mv22 H locs X ls (lv_sub hl [2, 3, 4, 0, 1] rfl) (wl_l h1 hx1)
      exact K48 n 0 0 Mv11 H locs X ls (lv_sub hl [2, 3, 4, 1, 0] rfl) he1
    · have h0 := if_t c9 h0
      refine lv_iconst (v := 0) hx hb dX8_breaksIn_37 (by decide) ?_
      have h0 := Option.some.inj h0
      obtain ⟨q_0, q_1⟩ := Prod.mk.inj h0
      subst q_0
      subst q_1
      subst hQ
      exact w_iret K hr0 X wM_fstx hsz dX8_breaksIn_38
-- X8_bestSlant
def b_X8_bestSlant_109  (y109_l2 : Int32) (M_109 : RowS) : Option (Int32 × RowS) :=
  some (y109_l2, M_109)
def b_X8_bestSlant_103  (y103_l2 : Int32) (y103_l3 : Int32) (y103_l4 : Int32) (M_103 : RowS) : Option ((Int32 × Int32 × Int32 × RowS) ⊕ (Int32 × RowS)) :=
  lt (y103_l4 + 50) fun x21 =>
  some (.inl (y103_l2, y103_l3, x21, M_103))
def b_X8_bestSlant_76 (n : Nat) (y76_l2 : Int32) (y76_l3 : Int32) (y76_l4 : Int32) (y76_s0 : Int32) (M_76 : RowS) : Option ((Int32 × Int32 × Int32 × RowS) ⊕ (Int32 × RowS)) :=
  ob (f_X8_laysBack n M_76) fun x18 =>
  lt (x18) fun Mv19 =>
  if y76_s0 = (-1) then
    b_X8_bestSlant_103 y76_l2 y76_l3 y76_l4 Mv19
  else
    if y76_l3 ≤ y76_s0 then
      b_X8_bestSlant_103 y76_l4 y76_s0 y76_l4 Mv19
    else
      b_X8_bestSlant_103 y76_l2 y76_l3 y76_l4 Mv19
def l_X8_bestSlant_28 (n : Nat) (a1 : Int32) (z28_2 : Int32) (z28_3 : Int32) (z28_4 : Int32) (Mz_28 : RowS) : Option ((Int32 × Int32 × Int32 × RowS) ⊕ (Int32 × RowS)) :=
  if 1000 < z28_4 then
    some (.inr (z28_2, Mz_28))
  else
    ob (f_X8_isWhole Mz_28 a1) fun x7 =>
    if x7 = true then
      ob (f_X8_laysAside n Mz_28) fun x9 =>
      lt (x9) fun Mv10 =>
      lt (f_X8_cell a1 3) fun x11 =>
      if 0 ≤ x11.toInt ∧ x11.toInt < 102 then
        lt (si Mv10 1 x11.toNatClampNeg z28_4) fun Mv13 =>
        ob (f_X8_settles n Mv13) fun x14 =>
        lt (x14.2) fun Mv15 =>
        if x14.1 ≤ 0 then
          ob (f_X8_columnOf n Mv15 a1) fun x17 =>
          b_X8_bestSlant_76 n z28_2 z28_3 z28_4 x17 Mv15
        else
          b_X8_bestSlant_76 n z28_2 z28_3 z28_4 (-1) Mv15
      else none
    else
      some (.inr (z28_2, Mz_28))
def f_X8_bestSlant (n : Nat) (M : RowS) (a1 : Int32) : Option (Int32 × RowS) :=
  lt (si M 0 0 0) fun Mv1 =>
  ob (f_X8_isTube Mv1 a1) fun x2 =>
  lt (f_X8_fails Mv1 (b2i x2) 1) fun x3 =>
  lt (x3.2) fun Mv4 =>
  if x3.1 = true then
    some (0, Mv4)
  else
    ob (wloop (fun t => l_X8_bestSlant_28 n a1 t.1 t.2.1 t.2.2.1 t.2.2.2) n ((-1), (-1), 50, Mv4)) (fun t => b_X8_bestSlant_109 t.1 t.2)
abbrev rm_X8_bestSlant : Room := { frames := 9, cells := 0, slots := 0, locals := 219 }
set_option maxRecDepth 100000 in
set_option maxHeartbeats 4000000 in
theorem m_X8_bestSlant (l : Launch) (D : va_G) (ca : Nat → ClassId) (am : Nat → Nat) (n : Nat) (M : RowS) (xs : va_W) (a1 : Int32) (res : Int32) (M' : RowS) (h0 : f_X8_bestSlant n M a1 = some (res, M')) (sz : Nat) : Met l yX8_bestSlant (ws_ yX8_bestSlant cX8_bestSlant 6 (some .int)) rm_X8_bestSlant (PCw D ca (wM am ca M ++ xs) sz [.ref (am 0), .int a1]) (QMw D (wM am ca M ++ xs) (wM am ca (M') ++ xs) sz (some (.int res))) 0 0 (AL (wM am ca M ++ xs) sz) := by
  refine met_of (by decide) (Nat.le_of_ble_eq_true rfl) (fun p e s m args below meth c K hr0 X hsz ls hl => ?_)
  have K : MC D ca p s m args meth c cX8_bestSlant 6 RX8 := K
  have hx := K.1
  have hb := K.2.1
  have hl : lv_has ls 6 [(0, .ref (am 0)), (1, .int a1)] := hl
  generalize hQ : MQ below _ args s 0 0 _ = Q
  unfold f_X8_bestSlant at h0
  suffices Z : ∀ (H : Heap) (locs : List Loc) (X : RW D (wM am ca M ++ xs) s.heap H locs), W p l e rm_X8_bestSlant s m args below meth c H locs 0 0 Q (F0 m 0 ls []) from Z _ _ X
  intro H locs X
  have J109 : ∀ (y109_l2 : Int32) (M_109 : RowS) (H : Heap) (locs : List Loc) (X : RW D (wM am ca M_109 ++ xs) s.heap H locs) (ls : Array Slot) (hl : lv_has ls 6 [(2, .int y109_l2)]) (h0 : b_X8_bestSlant_109 y109_l2 M_109 = some (res, M')), W p l e rm_X8_bestSlant s m args below meth c H locs 0 0 Q (F0 m 109 ls []) := by
    intro y109_l2 M_109 H locs X ls hl h0
    unfold b_X8_bestSlant_109 at h0
    refine lv_iload_n hx hb dX8_bestSlant_109 rfl (lv_at hl 0 rfl) ?_
    have h0 := Option.some.inj h0
    obtain ⟨q_0, q_1⟩ := Prod.mk.inj h0
    subst q_0
    subst q_1
    subst hQ
    exact w_iret K hr0 X wM_fstx hsz dX8_bestSlant_110
  refine lv_aload_n hx hb dX8_bestSlant_0 rfl (lv_at hl 0 rfl) ?_
  refine lv_iconst (v := 0) hx hb dX8_bestSlant_1 (by decide) ?_
  obtain ⟨Mv1, eMv1, h0⟩ := lt_out h0
  refine p_modi (ty := .int) K X 0 (by decide) (fun _ _ => rfl) (by decide +kernel) ⟨rfl, rfl⟩ eMv1 q1399 dX8_bestSlant_2 (fun H locs X => ?_)
  refine lv_aload_n hx hb dX8_bestSlant_5 rfl (lv_at hl 0 rfl) ?_
  refine lv_aload_n hx hb dX8_bestSlant_6 rfl (lv_at hl 0 rfl) ?_
  refine lv_iload_n hx hb dX8_bestSlant_7 rfl (lv_at hl 1 rfl) ?_
  obtain ⟨x2, ex2, h0⟩ := ob_out h0
  have kx2 := m_X8_isTube l D ca am Mv1 xs a1 x2 ex2 H.size
  refine w_callV0 K X wM_fstx kx2 hl.1 1 q1714 q1716 q60 q97 q1717 hv_X8_isTube ⟨⟨Nat.le_of_ble_eq_true rfl, Nat.le_of_ble_eq_true rfl⟩, rfl, rfl⟩ pl_modo rfl rfl rfl rfl (Nat.le_of_ble_eq_true rfl) dX8_bestSlant_8 ⟨Nat.le_of_ble_eq_true rfl, Nat.le_of_ble_eq_true rfl⟩ rfl (fun H locs X => ?_)
  refine lv_iconst (v := 1) hx hb dX8_bestSlant_11 (by decide) ?_
  obtain ⟨x3, ex3, h0⟩ := lt_out h0
  obtain ⟨Mv4, eMv4, h0⟩ := lt_out h0
  have kx3 := m_X8_fails l D ca am Mv1 xs (b2i x2) 1 x3.1 x3.2 ex3.symm H.size
  rw [← eMv4] at kx3
  refine w_callV0 K X wM_fstx kx3 hl.1 2 q1507 q1509 q22 q97 q1510 hv_X8_fails ⟨⟨Nat.le_of_ble_eq_true rfl, Nat.le_of_ble_eq_true rfl⟩, rfl, rfl⟩ pl_modo rfl rfl rfl rfl (Nat.le_of_ble_eq_true rfl) dX8_bestSlant_12 ⟨Nat.le_of_ble_eq_true rfl, Nat.le_of_ble_eq_true rfl⟩ rfl (fun H locs X => ?_)
  refine w_zeq (tgt := 20) K dX8_bestSlant_15 (by decide) (fun c5 => ?_) (fun c5 => ?_)
  · have h0 := if_f c5 h0
    refine lv_iconst (v := (-1)) hx hb dX8_bestSlant_20 (by decide) ?_
    refine lv_istore_n (lv' := [(2, .int (-1)), (0, .ref (am 0)), (1, .int a1)]) hx hb dX8_bestSlant_21 rfl hl (by decide) rfl (fun ls hl => ?_)
    refine lv_iconst (v := (-1)) hx hb dX8_bestSlant_22 (by decide) ?_
    refine lv_istore_n (lv' := [(3, .int (-1)), (2, .int (-1)), (0, .ref (am 0)), (1, .int a1)]) hx hb dX8_bestSlant_23 rfl hl (by decide) rfl (fun ls hl => ?_)
    refine lv_bipush (v := 50) hx hb dX8_bestSlant_24 (by decide) ?_
    refine lv_istore (lv' := [(4, .int 50), (3, .int (-1)), (2, .int (-1)), (0, .ref (am 0)), (1, .int a1)]) hx hb dX8_bestSlant_26 hl (by decide) rfl (fun ls hl => ?_)
    obtain ⟨e_1, he1, h0⟩ := ob_out h0
    have K28 : ∀ (k : Nat) (z28_2 : Int32) (z28_3 : Int32) (z28_4 : Int32) (Mz_28 : RowS) (H : Heap) (locs : List Loc) (X : RW D (wM am ca Mz_28 ++ xs) s.heap H locs) (ls : Array Slot) (hl : lv_has ls 6 [(0, .ref (am 0)), (1, .int a1), (2, .int z28_2), (3, .int z28_3), (4, .int z28_4)]) (hw : wloop (fun t => l_X8_bestSlant_28 n a1 t.1 t.2.1 t.2.2.1 t.2.2.2) k (z28_2, z28_3, z28_4, Mz_28) = some e_1), W p l e rm_X8_bestSlant s m args below meth c H locs 0 0 Q (F0 m 28 ls []) := by
      intro k
      induction k with
      | zero => intro z28_2 z28_3 z28_4 Mz_28 H locs X ls hl hw; exact (wloop_0 hw).elim
      | succ k ih1 =>
        intro z28_2 z28_3 z28_4 Mz_28 H locs X ls hl hw
        obtain ⟨x_1, h1, hx1⟩ := wloop_out hw
        have h1 : l_X8_bestSlant_28 n a1 z28_2 z28_3 z28_4 Mz_28 = some x_1 := h1
        unfold l_X8_bestSlant_28 at h1
        have J103 : ∀ (y103_l2 : Int32) (y103_l3 : Int32) (y103_l4 : Int32) (M_103 : RowS) (H : Heap) (locs : List Loc) (X : RW D (wM am ca M_103 ++ xs) s.heap H locs) (ls : Array Slot) (hl : lv_has ls 6 [(0, .ref (am 0)), (1, .int a1), (2, .int y103_l2), (3, .int y103_l3), (4, .int y103_l4)]) (h1 : b_X8_bestSlant_103 y103_l2 y103_l3 y103_l4 M_103 = some x_1), W p l e rm_X8_bestSlant s m args below meth c H locs 0 0 Q (F0 m 103 ls []) := by
          intro y103_l2 y103_l3 y103_l4 M_103 H locs X ls hl h1
          unfold b_X8_bestSlant_103 at h1
          obtain ⟨x21, ex21, h1⟩ := lt_out h1
          refine lv_iinc (v := x21) (lv' := [(4, .int x21), (0, .ref (am 0)), (1, .int a1), (2, .int y103_l2), (3, .int y103_l3)]) hx hb dX8_bestSlant_103 hl (k := 4) rfl (by rw [ex21]; rfl) (by decide) rfl (fun ls hl => ?_)
          refine lv_goto (tgt := 28) hx hb dX8_bestSlant_106 (by decide) ?_
          exact ih1 y103_l2 y103_l3 x21 M_103 H locs X ls (lv_sub hl [1, 2, 3, 4, 0] rfl) (wl_l h1 hx1)
        have J76 : ∀ (y76_l2 : Int32) (y76_l3 : Int32) (y76_l4 : Int32) (y76_s0 : Int32) (M_76 : RowS) (H : Heap) (locs : List Loc) (X : RW D (wM am ca M_76 ++ xs) s.heap H locs) (ls : Array Slot) (hl : lv_has ls 6 [(0, .ref (am 0)), (1, .int a1), (2, .int y76_l2), (3, .int y76_l3), (4, .int y76_l4)]) (h1 : b_X8_bestSlant_76 n y76_l2 y76_l3 y76_l4 y76_s0 M_76 = some x_1), W p l e rm_X8_bestSlant s m args below meth c H locs 0 0 Q (F0 m 76 ls [.int y76_s0]) := by
          intro y76_l2 y76_l3 y76_l4 y76_s0 M_76 H locs X ls hl h1
          unfold b_X8_bestSlant_76 at h1
          refine lv_istore (lv' := [(5, .int y76_s0), (0, .ref (am 0)), (1, .int a1), (2, .int y76_l2), (3, .int y76_l3), (4, .int y76_l4)]) hx hb dX8_bestSlant_76 hl (by decide) rfl (fun ls hl => ?_)
          refine lv_aload_n hx hb dX8_bestSlant_78 rfl (lv_at hl 1 rfl) ?_
          obtain ⟨x18, ex18, h1⟩ := ob_out h1
          obtain ⟨Mv19, eMv19, h1⟩ := lt_out h1
          have kx18 := m_X8_laysBack l D ca am n M_76 xs x18 ex18 H.size
          rw [← eMv19] at kx18
          refine w_callV0 K X wM_fstx kx18 hl.1 0 q1611 q1613 q42 q97 q1614 hv_X8_laysBack ⟨⟨Nat.le_of_ble_eq_true rfl, Nat.le_of_ble_eq_true rfl⟩, rfl, rfl⟩ pl_modo rfl rfl rfl rfl (Nat.le_of_ble_eq_true rfl) dX8_bestSlant_79 ⟨Nat.le_of_ble_eq_true rfl, Nat.le_of_ble_eq_true rfl⟩ rfl (fun H locs X => ?_)
          refine lv_iload hx hb dX8_bestSlant_82 (lv_at hl 0 rfl) ?_
          refine lv_iconst (v := (-1)) hx hb dX8_bestSlant_84 (by decide) ?_
          refine lv_icmp_eq (tgt := 103) hx hb dX8_bestSlant_85 (by decide) (fun c20 => ?_) (fun c20 => ?_)
          · have h1 := if_t c20 h1
            exact J103 y76_l2 y76_l3 y76_l4 Mv19 H locs X ls (lv_sub hl [1, 2, 3, 4, 5] rfl) h1
          · have h1 := if_f c20 h1
            refine lv_iload hx hb dX8_bestSlant_88 (lv_at hl 0 rfl) ?_
            refine lv_iload_n hx hb dX8_bestSlant_90 rfl (lv_at hl 4 rfl) ?_
            refine lv_icmp_ge (tgt := 97) hx hb dX8_bestSlant_91 (by decide) (fun c22 => ?_) (fun c22 => ?_)
            · have h1 := if_t c22 h1
              refine lv_iload hx hb dX8_bestSlant_97 (lv_at hl 5 rfl) ?_
              refine lv_istore_n (lv' := [(2, .int y76_l4), (5, .int y76_s0), (0, .ref (am 0)), (1, .int a1), (3, .int y76_l3), (4, .int y76_l4)]) hx hb dX8_bestSlant_99 rfl hl (by decide) rfl (fun ls hl => ?_)
              refine lv_iload hx hb dX8_bestSlant_100 (lv_at hl 1 rfl) ?_
              refine lv_istore_n (lv' := [(3, .int y76_s0), (2, .int y76_l4), (5, .int y76_s0), (0, .ref (am 0)), (1, .int a1), (4, .int y76_l4)]) hx hb dX8_bestSlant_102 rfl hl (by decide) rfl (fun ls hl => ?_)
              exact J103 y76_l4 y76_s0 y76_l4 Mv19 H locs X ls (lv_sub hl [3, 4, 1, 0, 5] rfl) h1
            · have h1 := if_f c22 h1
              refine lv_goto (tgt := 103) hx hb dX8_bestSlant_94 (by decide) ?_
              exact J103 y76_l2 y76_l3 y76_l4 Mv19 H locs X ls (lv_sub hl [1, 2, 3, 4, 5] rfl) h1
        refine lv_iload hx hb dX8_bestSlant_28 (lv_at hl 4 rfl) ?_
        refine lv_sipush (v := 1000) hx hb dX8_bestSlant_30 (by decide) ?_
        refine lv_icmp_gt (tgt := 109) hx hb dX8_bestSlant_33 (by decide) (fun c6 => ?_) (fun c6 => ?_)
        · have h1 := if_t c6 h1
          have q1 := wl_r h1 hx1
          exact J109 z28_2 Mz_28 H locs X ls (lv_sub hl [2] rfl) (by rw [q1] at h0; exact h0)
        · have h1 := if_f c6 h1
          refine lv_aload_n hx hb dX8_bestSlant_36 rfl (lv_at hl 0 rfl) ?_
          refine lv_iload_n hx hb dX8_bestSlant_37 rfl (lv_at hl 1 rfl) ?_
          obtain ⟨x7, ex7, h1⟩ := ob_out h1
          have kx7 := m_X8_isWhole l D ca am Mz_28 xs a1 x7 ex7 H.size
          refine w_callV0 K X wM_fstx kx7 hl.1 1 q1655 q1657 q52 q97 q1658 hv_X8_isWhole ⟨⟨Nat.le_of_ble_eq_true rfl, Nat.le_of_ble_eq_true rfl⟩, rfl, rfl⟩ pl_modo rfl rfl rfl rfl (Nat.le_of_ble_eq_true rfl) dX8_bestSlant_38 ⟨Nat.le_of_ble_eq_true rfl, Nat.le_of_ble_eq_true rfl⟩ rfl (fun H locs X => ?_)
          refine w_zeq (tgt := 109) K dX8_bestSlant_41 (by decide) (fun c8 => ?_) (fun c8 => ?_)
          · have h1 := if_f c8 h1
            have q1 := wl_r h1 hx1
            exact J109 z28_2 Mz_28 H locs X ls (lv_sub hl [2] rfl) (by rw [q1] at h0; exact h0)
          · have h1 := if_t c8 h1
            refine lv_aload_n hx hb dX8_bestSlant_44 rfl (lv_at hl 0 rfl) ?_
            obtain ⟨x9, ex9, h1⟩ := ob_out h1
            obtain ⟨Mv10, eMv10, h1⟩ := lt_out h1
            have kx9 := m_X8_laysAside l D ca am n Mz_28 xs x9 ex9 H.size
            rw [← eMv10] at kx9
            refine w_callV0 K X wM_fstx kx9 hl.1 0 q1511 q1513 q23 q97 q1514 hv_X8_laysAside ⟨⟨Nat.le_of_ble_eq_true rfl, Nat.le_of_ble_eq_true rfl⟩, rfl, rfl⟩ pl_modo rfl rfl rfl rfl (Nat.le_of_ble_eq_true rfl) dX8_bestSlant_45 ⟨Nat.le_of_ble_eq_true rfl, Nat.le_of_ble_eq_true rfl⟩ rfl (fun H locs X => ?_)
            refine lv_aload_n hx hb dX8_bestSlant_48 rfl (lv_at hl 0 rfl) ?_
            refine g_modr K X 1 (by decide) (fun _ _ => rfl) q1400 dX8_bestSlant_49 ?_
            refine lv_iload_n hx hb dX8_bestSlant_52 rfl (lv_at hl 1 rfl) ?_
            refine lv_iconst (v := 3) hx hb dX8_bestSlant_53 (by decide) ?_
            obtain ⟨x11, ex11, h1⟩ := lt_out h1
            have kx11 := m_X8_cell l D ca (wM am ca Mv10 ++ xs) a1 3 x11 ex11.symm H.size
            refine w_callS0 K X wM_fstx kx11 hl.1 2 q1598 q1599 q97 q1600 hs_X8_cell ⟨⟨Nat.le_of_ble_eq_true rfl, Nat.le_of_ble_eq_true rfl⟩, rfl, rfl⟩ rfl rfl (Nat.le_of_ble_eq_true rfl) dX8_bestSlant_54 ⟨Nat.le_of_ble_eq_true rfl, Nat.le_of_ble_eq_true rfl⟩ rfl (fun H locs X => ?_)
            refine lv_iload hx hb dX8_bestSlant_57 (lv_at hl 4 rfl) ?_
            obtain ⟨c12, h1⟩ := if_o h1
            obtain ⟨Mv13, eMv13, h1⟩ := lt_out h1
            refine s_modi K X 1 1 102 rfl (fun _ => rfl) (inb_vp c12) eMv13 dX8_bestSlant_59 (fun H locs X => ?_)
            refine lv_aload_n hx hb dX8_bestSlant_60 rfl (lv_at hl 0 rfl) ?_
            obtain ⟨x14, ex14, h1⟩ := ob_out h1
            obtain ⟨Mv15, eMv15, h1⟩ := lt_out h1
            have kx14 := m_X8_settles l D ca am n Mv13 xs x14.1 x14.2 ex14 H.size
            rw [← eMv15] at kx14
            refine w_callV0 K X wM_fstx kx14 hl.1 0 q1615 q1617 q43 q97 q1618 hv_X8_settles ⟨⟨Nat.le_of_ble_eq_true rfl, Nat.le_of_ble_eq_true rfl⟩, rfl, rfl⟩ pl_modo rfl rfl rfl rfl (Nat.le_of_ble_eq_true rfl) dX8_bestSlant_61 ⟨Nat.le_of_ble_eq_true rfl, Nat.le_of_ble_eq_true rfl⟩ rfl (fun H locs X => ?_)
            refine lv_if_le (tgt := 71) hx hb dX8_bestSlant_64 (by decide) (fun c16 => ?_) (fun c16 => ?_)
            · have h1 := if_t c16 h1
              refine lv_aload_n hx hb dX8_bestSlant_71 rfl (lv_at hl 0 rfl) ?_
              refine lv_iload_n hx hb dX8_bestSlant_72 rfl (lv_at hl 1 rfl) ?_
              obtain ⟨x17, ex17, h1⟩ := ob_out h1
              have kx17 := m_X8_columnOf l D ca am n Mv15 xs a1 x17 ex17 H.size
              refine w_callV0 K X wM_fstx kx17 hl.1 1 q1719 q1721 q61 q97 q1722 hv_X8_columnOf ⟨⟨Nat.le_of_ble_eq_true rfl, Nat.le_of_ble_eq_true rfl⟩, rfl, rfl⟩ pl_modo rfl rfl rfl rfl (Nat.le_of_ble_eq_true rfl) dX8_bestSlant_73 ⟨Nat.le_of_ble_eq_true rfl, Nat.le_of_ble_eq_true rfl⟩ rfl (fun H locs X => ?_)
              exact J76 z28_2 z28_3 z28_4 x17 Mv15 H locs X ls (lv_sub hl [0, 1, 2, 3, 4] rfl) h1
            · have h1 := if_f c16 h1
              refine lv_iconst (v := (-1)) hx hb dX8_bestSlant_67 (by decide) ?_
              refine lv_goto (tgt := 76) hx hb dX8_bestSlant_68 (by decide) ?_
              exact J76 z28_2 z28_3 z28_4 (-1) Mv15 H locs X ls (lv_sub hl [0, 1, 2, 3, 4] rfl) h1
    exact K28 n (-1) (-1) 50 Mv4 H locs X ls (lv_sub hl [3, 4, 2, 1, 0] rfl) he1
  · have h0 := if_t c5 h0
    refine lv_iconst (v := 0) hx hb dX8_bestSlant_18 (by decide) ?_
    have h0 := Option.some.inj h0
    obtain ⟨q_0, q_1⟩ := Prod.mk.inj h0
    subst q_0
    subst q_1
    subst hQ
    exact w_iret K hr0 X wM_fstx hsz dX8_bestSlant_19
-- X8_lostWith
def f_X8_lostWith (n : Nat) (M : RowS) (a1 : Int32) : Option (Int32 × RowS) :=
  lt (si M 0 0 0) fun Mv1 =>
  lt (f_X8_isPressure a1) fun x2 =>
  lt (f_X8_fails Mv1 (b2i x2) 1) fun x3 =>
  lt (x3.2) fun Mv4 =>
  if x3.1 = true then
    some (0, Mv4)
  else
    ob (f_X8_laysAside n Mv4) fun x6 =>
    lt (x6) fun Mv7 =>
    if 0 ≤ (1 : Int32).toInt ∧ (1 : Int32).toInt < 102 then
      lt (si Mv7 1 (1 : Int32).toNatClampNeg a1) fun Mv9 =>
      ob (f_X8_settles n Mv9) fun x10 =>
      lt (x10.2) fun Mv11 =>
      lt (x10.1) fun x12 =>
      ob (f_X8_laysBack n Mv11) fun x13 =>
      lt (x13) fun Mv14 =>
      some (x12, Mv14)
    else none
abbrev rm_X8_lostWith : Room := { frames := 9, cells := 0, slots := 0, locals := 219 }
set_option maxRecDepth 100000 in
set_option maxHeartbeats 4000000 in
theorem m_X8_lostWith (l : Launch) (D : va_G) (ca : Nat → ClassId) (am : Nat → Nat) (n : Nat) (M : RowS) (xs : va_W) (a1 : Int32) (res : Int32) (M' : RowS) (h0 : f_X8_lostWith n M a1 = some (res, M')) (sz : Nat) : Met l yX8_lostWith (ws_ yX8_lostWith cX8_lostWith 3 (some .int)) rm_X8_lostWith (PCw D ca (wM am ca M ++ xs) sz [.ref (am 0), .int a1]) (QMw D (wM am ca M ++ xs) (wM am ca (M') ++ xs) sz (some (.int res))) 0 0 (AL (wM am ca M ++ xs) sz) := by
  refine met_of (by decide) (Nat.le_of_ble_eq_true rfl) (fun p e s m args below meth c K hr0 X hsz ls hl => ?_)
  have K : MC D ca p s m args meth c cX8_lostWith 3 RX8 := K
  have hx := K.1
  have hb := K.2.1
  have hl : lv_has ls 3 [(0, .ref (am 0)), (1, .int a1)] := hl
  generalize hQ : MQ below _ args s 0 0 _ = Q
  unfold f_X8_lostWith at h0
  suffices Z : ∀ (H : Heap) (locs : List Loc) (X : RW D (wM am ca M ++ xs) s.heap H locs), W p l e rm_X8_lostWith s m args below meth c H locs 0 0 Q (F0 m 0 ls []) from Z _ _ X
  intro H locs X
  refine lv_aload_n hx hb dX8_lostWith_0 rfl (lv_at hl 0 rfl) ?_
  refine lv_iconst (v := 0) hx hb dX8_lostWith_1 (by decide) ?_
  obtain ⟨Mv1, eMv1, h0⟩ := lt_out h0
  refine p_modi (ty := .int) K X 0 (by decide) (fun _ _ => rfl) (by decide +kernel) ⟨rfl, rfl⟩ eMv1 q1399 dX8_lostWith_2 (fun H locs X => ?_)
  refine lv_aload_n hx hb dX8_lostWith_5 rfl (lv_at hl 0 rfl) ?_
  refine lv_iload_n hx hb dX8_lostWith_6 rfl (lv_at hl 1 rfl) ?_
  obtain ⟨x2, ex2, h0⟩ := lt_out h0
  have kx2 := m_X8_isPressure l D ca (wM am ca Mv1 ++ xs) a1 x2 ex2.symm H.size
  refine w_callS0 K X wM_fstx kx2 hl.1 1 q1783 q1784 q97 q1785 hs_X8_isPressure ⟨⟨Nat.le_of_ble_eq_true rfl, Nat.le_of_ble_eq_true rfl⟩, rfl, rfl⟩ rfl rfl (Nat.le_of_ble_eq_true rfl) dX8_lostWith_7 ⟨Nat.le_of_ble_eq_true rfl, Nat.le_of_ble_eq_true rfl⟩ rfl (fun H locs X => ?_)
  refine lv_iconst (v := 1) hx hb dX8_lostWith_10 (by decide) ?_
  obtain ⟨x3, ex3, h0⟩ := lt_out h0
  obtain ⟨Mv4, eMv4, h0⟩ := lt_out h0
  have kx3 := m_X8_fails l D ca am Mv1 xs (b2i x2) 1 x3.1 x3.2 ex3.symm H.size
  rw [← eMv4] at kx3
  refine w_callV0 K X wM_fstx kx3 hl.1 2 q1507 q1509 q22 q97 q1510 hv_X8_fails ⟨⟨Nat.le_of_ble_eq_true rfl, Nat.le_of_ble_eq_true rfl⟩, rfl, rfl⟩ pl_modo rfl rfl rfl rfl (Nat.le_of_ble_eq_true rfl) dX8_lostWith_11 ⟨Nat.le_of_ble_eq_true rfl, Nat.le_of_ble_eq_true rfl⟩ rfl (fun H locs X => ?_)
  refine w_zeq (tgt := 19) K dX8_lostWith_14 (by decide) (fun c5 => ?_) (fun c5 => ?_)
  · have h0 := if_f c5 h0
    refine lv_aload_n hx hb dX8_lostWith_19 rfl (lv_at hl 0 rfl) ?_
    obtain ⟨x6, ex6, h0⟩ := ob_out h0
    obtain ⟨Mv7, eMv7, h0⟩ := lt_out h0
    have kx6 := m_X8_laysAside l D ca am n Mv4 xs x6 ex6 H.size
    rw [← eMv7] at kx6
    refine w_callV0 K X wM_fstx kx6 hl.1 0 q1511 q1513 q23 q97 q1514 hv_X8_laysAside ⟨⟨Nat.le_of_ble_eq_true rfl, Nat.le_of_ble_eq_true rfl⟩, rfl, rfl⟩ pl_modo rfl rfl rfl rfl (Nat.le_of_ble_eq_true rfl) dX8_lostWith_20 ⟨Nat.le_of_ble_eq_true rfl, Nat.le_of_ble_eq_true rfl⟩ rfl (fun H locs X => ?_)
    refine lv_aload_n hx hb dX8_lostWith_23 rfl (lv_at hl 0 rfl) ?_
    refine g_modr K X 1 (by decide) (fun _ _ => rfl) q1400 dX8_lostWith_24 ?_
    refine lv_iconst (v := 1) hx hb dX8_lostWith_27 (by decide) ?_
    refine lv_iload_n hx hb dX8_lostWith_28 rfl (lv_at hl 1 rfl) ?_
    obtain ⟨c8, h0⟩ := if_o h0
    obtain ⟨Mv9, eMv9, h0⟩ := lt_out h0
    refine s_modi K X 1 1 102 rfl (fun _ => rfl) (inb_vp c8) eMv9 dX8_lostWith_29 (fun H locs X => ?_)
    refine lv_aload_n hx hb dX8_lostWith_30 rfl (lv_at hl 0 rfl) ?_
    obtain ⟨x10, ex10, h0⟩ := ob_out h0
    obtain ⟨Mv11, eMv11, h0⟩ := lt_out h0
    have kx10 := m_X8_settles l D ca am n Mv9 xs x10.1 x10.2 ex10 H.size
    rw [← eMv11] at kx10
    refine w_callV0 K X wM_fstx kx10 hl.1 0 q1615 q1617 q43 q97 q1618 hv_X8_settles ⟨⟨Nat.le_of_ble_eq_true rfl, Nat.le_of_ble_eq_true rfl⟩, rfl, rfl⟩ pl_modo rfl rfl rfl rfl (Nat.le_of_ble_eq_true rfl) dX8_lostWith_31 ⟨Nat.le_of_ble_eq_true rfl, Nat.le_of_ble_eq_true rfl⟩ rfl (fun H locs X => ?_)
    obtain ⟨x12, ex12, h0⟩ := lt_out h0
    refine w_int ex12 ?_
    refine lv_istore_n (lv' := [(2, .int x12), (0, .ref (am 0)), (1, .int a1)]) hx hb dX8_lostWith_34 rfl hl (by decide) rfl (fun ls hl => ?_)
    refine lv_aload_n hx hb dX8_lostWith_35 rfl (lv_at hl 1 rfl) ?_
    obtain ⟨x13, ex13, h0⟩ := ob_out h0
    obtain ⟨Mv14, eMv14, h0⟩ := lt_out h0
    have kx13 := m_X8_laysBack l D ca am n Mv11 xs x13 ex13 H.size
    rw [← eMv14] at kx13
    refine w_callV0 K X wM_fstx kx13 hl.1 0 q1611 q1613 q42 q97 q1614 hv_X8_laysBack ⟨⟨Nat.le_of_ble_eq_true rfl, Nat.le_of_ble_eq_true rfl⟩, rfl, rfl⟩ pl_modo rfl rfl rfl rfl (Nat.le_of_ble_eq_true rfl) dX8_lostWith_36 ⟨Nat.le_of_ble_eq_true rfl, Nat.le_of_ble_eq_true rfl⟩ rfl (fun H locs X => ?_)
    refine lv_iload_n hx hb dX8_lostWith_39 rfl (lv_at hl 0 rfl) ?_
    have h0 := Option.some.inj h0
    obtain ⟨q_0, q_1⟩ := Prod.mk.inj h0
    subst q_0
    subst q_1
    subst hQ
    exact w_iret K hr0 X wM_fstx hsz dX8_lostWith_40
  · have h0 := if_t c5 h0
    refine lv_iconst (v := 0) hx hb dX8_lostWith_17 (by decide) ?_
    have h0 := Option.some.inj h0
    obtain ⟨q_0, q_1⟩ := Prod.mk.inj h0
    subst q_0
    subst q_1
    subst hQ
    exact w_iret K hr0 X wM_fstx hsz dX8_lostWith_18
-- X8_keeps
def b_X8_keeps_77 (n : Nat) (M_77 : RowS) : Option RowS :=
  ob (f_X8_copies n M_77 1 102 0 4 1020 (102 * (M_77.1 0 9))) fun x2 =>
  lt (x2) fun Mv3 =>
  ob (f_X8_copiesLongs n Mv3 5 6 0 8 60 (6 * (Mv3.1 0 9))) fun x4 =>
  lt (x4) fun Mv5 =>
  lt (si Mv5 0 9 ((Mv5.1 0 9) + 1)) fun Mv6 =>
  some Mv6
def l_X8_keeps_21 (n : Nat) (z21_1 : Int32) (Mz_21 : RowS) : Option ((Int32 × RowS) ⊕ RowS) :=
  if (Mz_21.1 0 9) ≤ z21_1 then
    some (.inr Mz_21)
  else
    ob (f_X8_copies n Mz_21 4 1020 (102 * (z21_1 + 1)) 4 1020 (102 * z21_1)) fun x9 =>
    lt (x9) fun Mv10 =>
    ob (f_X8_copiesLongs n Mv10 8 60 (6 * (z21_1 + 1)) 8 60 (6 * z21_1)) fun x11 =>
    lt (x11) fun Mv12 =>
    lt (z21_1 + 1) fun x13 =>
    some (.inl (x13, Mv12))
def f_X8_keeps (n : Nat) (M : RowS) : Option RowS :=
  if (M.1 0 9) = 10 then
    lt (si M 0 9 ((M.1 0 9) - 1)) fun Mv7 =>
    ob (wloop (fun t => l_X8_keeps_21 n t.1 t.2) n (0, Mv7)) (fun t => b_X8_keeps_77 n t)
  else
    b_X8_keeps_77 n M
abbrev rm_X8_keeps : Room := { frames := 1, cells := 0, slots := 0, locals := 24 }
set_option maxRecDepth 100000 in
set_option maxHeartbeats 4000000 in
theorem m_X8_keeps (l : Launch) (D : va_G) (ca : Nat → ClassId) (am : Nat → Nat) (n : Nat) (M : RowS) (xs : va_W) (M' : RowS) (h0 : f_X8_keeps n M = some M') (sz : Nat) : Met l yX8_keeps (ws_ yX8_keeps cX8_keeps 2 none) rm_X8_keeps (PCw D ca (wM am ca M ++ xs) sz [.ref (am 0)]) (QMw D (wM am ca M ++ xs) (wM am ca (M') ++ xs) sz none) 0 0 (AL (wM am ca M ++ xs) sz) := by
  refine met_of (by decide) (Nat.le_of_ble_eq_true rfl) (fun p e s m args below meth c K hr0 X hsz ls hl => ?_)
  have K : MC D ca p s m args meth c cX8_keeps 2 RX8 := K
  have hx := K.1
  have hb := K.2.1
  have hl : lv_has ls 2 [(0, .ref (am 0))] := hl
  generalize hQ : MQ below _ args s 0 0 _ = Q
  unfold f_X8_keeps at h0
  suffices Z : ∀ (H : Heap) (locs : List Loc) (X : RW D (wM am ca M ++ xs) s.heap H locs), W p l e rm_X8_keeps s m args below meth c H locs 0 0 Q (F0 m 0 ls []) from Z _ _ X
  intro H locs X
  have J77 : ∀ (M_77 : RowS) (H : Heap) (locs : List Loc) (X : RW D (wM am ca M_77 ++ xs) s.heap H locs) (ls : Array Slot) (hl : lv_has ls 2 [(0, .ref (am 0))]) (h0 : b_X8_keeps_77 n M_77 = some M'), W p l e rm_X8_keeps s m args below meth c H locs 0 0 Q (F0 m 77 ls []) := by
    intro M_77 H locs X ls hl h0
    unfold b_X8_keeps_77 at h0
    refine lv_aload_n hx hb dX8_keeps_77 rfl (lv_at hl 0 rfl) ?_
    refine g_modr K X 1 (by decide) (fun _ _ => rfl) q1400 dX8_keeps_78 ?_
    refine lv_iconst (v := 0) hx hb dX8_keeps_81 (by decide) ?_
    refine lv_aload_n hx hb dX8_keeps_82 rfl (lv_at hl 0 rfl) ?_
    refine g_modr K X 4 (by decide) (fun _ _ => rfl) q1403 dX8_keeps_83 ?_
    refine lv_bipush (v := 102) hx hb dX8_keeps_86 (by decide) ?_
    refine lv_aload_n hx hb dX8_keeps_88 rfl (lv_at hl 0 rfl) ?_
    refine g_modi K X 9 (by decide) (fun _ _ => rfl) q1408 dX8_keeps_89 ?_
    refine lv_imul hx hb dX8_keeps_92 ?_
    obtain ⟨x2, ex2, h0⟩ := ob_out h0
    obtain ⟨Mv3, eMv3, h0⟩ := lt_out h0
    have kx2 := m_X8_copies l D ca am n M_77 xs 1 102 1 ⟨rfl, fun _ => rfl⟩ 0 4 1020 4 ⟨rfl, fun _ => rfl⟩ (102 * (M_77.1 0 9)) x2 ex2 H.size
    rw [← eMv3] at kx2
    refine w_callS0 K X wM_fstx kx2 hl.1 4 q1515 q1516 q97 q1517 hs_X8_copies ⟨⟨Nat.le_of_ble_eq_true rfl, Nat.le_of_ble_eq_true rfl⟩, rfl, rfl⟩ rfl rfl (Nat.le_of_ble_eq_true rfl) dX8_keeps_93 ⟨Nat.le_of_ble_eq_true rfl, Nat.le_of_ble_eq_true rfl⟩ rfl (fun H locs X => ?_)
    refine lv_aload_n hx hb dX8_keeps_96 rfl (lv_at hl 0 rfl) ?_
    refine g_modr K X 5 (by decide) (fun _ _ => rfl) q1404 dX8_keeps_97 ?_
    refine lv_iconst (v := 0) hx hb dX8_keeps_100 (by decide) ?_
    refine lv_aload_n hx hb dX8_keeps_101 rfl (lv_at hl 0 rfl) ?_
    refine g_modr K X 8 (by decide) (fun _ _ => rfl) q1407 dX8_keeps_102 ?_
    refine lv_bipush (v := 6) hx hb dX8_keeps_105 (by decide) ?_
    refine lv_aload_n hx hb dX8_keeps_107 rfl (lv_at hl 0 rfl) ?_
    refine g_modi K X 9 (by decide) (fun _ _ => rfl) q1408 dX8_keeps_108 ?_
    refine lv_imul hx hb dX8_keeps_111 ?_
    obtain ⟨x4, ex4, h0⟩ := ob_out h0
    obtain ⟨Mv5, eMv5, h0⟩ := lt_out h0
    have kx4 := m_X8_copiesLongs l D ca am n Mv3 xs 5 6 5 ⟨rfl, fun _ => rfl⟩ 0 8 60 8 ⟨rfl, fun _ => rfl⟩ (6 * (Mv3.1 0 9)) x4 ex4 H.size
    rw [← eMv5] at kx4
    refine w_callS0 K X wM_fstx kx4 hl.1 4 q1518 q1519 q97 q1520 hs_X8_copiesLongs ⟨⟨Nat.le_of_ble_eq_true rfl, Nat.le_of_ble_eq_true rfl⟩, rfl, rfl⟩ rfl rfl (Nat.le_of_ble_eq_true rfl) dX8_keeps_112 ⟨Nat.le_of_ble_eq_true rfl, Nat.le_of_ble_eq_true rfl⟩ rfl (fun H locs X => ?_)
    refine lv_aload_n hx hb dX8_keeps_115 rfl (lv_at hl 0 rfl) ?_
    refine lv_dup hx hb dX8_keeps_116 rfl ?_
    refine g_modi K X 9 (by decide) (fun _ _ => rfl) q1408 dX8_keeps_117 ?_
    refine lv_iconst (v := 1) hx hb dX8_keeps_120 (by decide) ?_
    refine lv_iadd hx hb dX8_keeps_121 ?_
    obtain ⟨Mv6, eMv6, h0⟩ := lt_out h0
    refine p_modi (ty := .int) K X 9 (by decide) (fun _ _ => rfl) (by decide +kernel) ⟨rfl, rfl⟩ eMv6 q1408 dX8_keeps_122 (fun H locs X => ?_)
    have h0 := Option.some.inj h0
    subst h0
    subst hQ
    exact w_vret K hr0 X wM_fstx hsz dX8_keeps_125
  refine lv_aload_n hx hb dX8_keeps_0 rfl (lv_at hl 0 rfl) ?_
  refine g_modi K X 9 (by decide) (fun _ _ => rfl) q1408 dX8_keeps_1 ?_
  refine lv_bipush (v := 10) hx hb dX8_keeps_4 (by decide) ?_
  refine lv_icmp_ne (tgt := 77) hx hb dX8_keeps_6 (by decide) (fun c1 => ?_) (fun c1 => ?_)
  · have h0 := if_f c1 h0
    exact J77 M H locs X ls (lv_sub hl [0] rfl) h0
  · have h0 := if_t c1 h0
    refine lv_aload_n hx hb dX8_keeps_9 rfl (lv_at hl 0 rfl) ?_
    refine lv_dup hx hb dX8_keeps_10 rfl ?_
    refine g_modi K X 9 (by decide) (fun _ _ => rfl) q1408 dX8_keeps_11 ?_
    refine lv_iconst (v := 1) hx hb dX8_keeps_14 (by decide) ?_
    refine lv_isub hx hb dX8_keeps_15 ?_
    obtain ⟨Mv7, eMv7, h0⟩ := lt_out h0
    refine p_modi (ty := .int) K X 9 (by decide) (fun _ _ => rfl) (by decide +kernel) ⟨rfl, rfl⟩ eMv7 q1408 dX8_keeps_16 (fun H locs X => ?_)
    refine lv_iconst (v := 0) hx hb dX8_keeps_19 (by decide) ?_
    refine lv_istore_n (lv' := [(1, .int 0), (0, .ref (am 0))]) hx hb dX8_keeps_20 rfl hl (by decide) rfl (fun ls hl => ?_)
    obtain ⟨e_1, he1, h0⟩ := ob_out h0
    have K21 : ∀ (k : Nat) (z21_1 : Int32) (Mz_21 : RowS) (H : Heap) (locs : List Loc) (X : RW D (wM am ca Mz_21 ++ xs) s.heap H locs) (ls : Array Slot) (hl : lv_has ls 2 [(0, .ref (am 0)), (1, .int z21_1)]) (hw : wloop (fun t => l_X8_keeps_21 n t.1 t.2) k (z21_1, Mz_21) = some e_1), W p l e rm_X8_keeps s m args below meth c H locs 0 0 Q (F0 m 21 ls []) := by
      intro k
      induction k with
      | zero => intro z21_1 Mz_21 H locs X ls hl hw; exact (wloop_0 hw).elim
      | succ k ih1 =>
        intro z21_1 Mz_21 H locs X ls hl hw
        obtain ⟨x_1, h1, hx1⟩ := wloop_out hw
        have h1 : l_X8_keeps_21 n z21_1 Mz_21 = some x_1 := h1
        unfold l_X8_keeps_21 at h1
        refine lv_iload_n hx hb dX8_keeps_21 rfl (lv_at hl 1 rfl) ?_
        refine lv_aload_n hx hb dX8_keeps_22 rfl (lv_at hl 0 rfl) ?_
        refine g_modi K X 9 (by decide) (fun _ _ => rfl) q1408 dX8_keeps_23 ?_
        refine lv_icmp_ge (tgt := 77) hx hb dX8_keeps_26 (by decide) (fun c8 => ?_) (fun c8 => ?_)
        · have h1 := if_t c8 h1
          have q1 := wl_r h1 hx1
          exact J77 Mz_21 H locs X ls (lv_sub hl [0] rfl) (by rw [q1] at h0; exact h0)
        · have h1 := if_f c8 h1
          refine lv_aload_n hx hb dX8_keeps_29 rfl (lv_at hl 0 rfl) ?_
          refine g_modr K X 4 (by decide) (fun _ _ => rfl) q1403 dX8_keeps_30 ?_
          refine lv_bipush (v := 102) hx hb dX8_keeps_33 (by decide) ?_
          refine lv_iload_n hx hb dX8_keeps_35 rfl (lv_at hl 1 rfl) ?_
          refine lv_iconst (v := 1) hx hb dX8_keeps_36 (by decide) ?_
          refine lv_iadd hx hb dX8_keeps_37 ?_
          refine lv_imul hx hb dX8_keeps_38 ?_
          refine lv_aload_n hx hb dX8_keeps_39 rfl (lv_at hl 0 rfl) ?_
          refine g_modr K X 4 (by decide) (fun _ _ => rfl) q1403 dX8_keeps_40 ?_
          refine lv_bipush (v := 102) hx hb dX8_keeps_43 (by decide) ?_
          refine lv_iload_n hx hb dX8_keeps_45 rfl (lv_at hl 1 rfl) ?_
          refine lv_imul hx hb dX8_keeps_46 ?_
          obtain ⟨x9, ex9, h1⟩ := ob_out h1
          obtain ⟨Mv10, eMv10, h1⟩ := lt_out h1
          have kx9 := m_X8_copies l D ca am n Mz_21 xs 4 1020 4 ⟨rfl, fun _ => rfl⟩ (102 * (z21_1 + 1)) 4 1020 4 ⟨rfl, fun _ => rfl⟩ (102 * z21_1) x9 ex9 H.size
          rw [← eMv10] at kx9
          refine w_callS0 K X wM_fstx kx9 hl.1 4 q1515 q1516 q97 q1517 hs_X8_copies ⟨⟨Nat.le_of_ble_eq_true rfl, Nat.le_of_ble_eq_true rfl⟩, rfl, rfl⟩ rfl rfl (Nat.le_of_ble_eq_true rfl) dX8_keeps_47 ⟨Nat.le_of_ble_eq_true rfl, Nat.le_of_ble_eq_true rfl⟩ rfl (fun H locs X => ?_)
          refine lv_aload_n hx hb dX8_keeps_50 rfl (lv_at hl 0 rfl) ?_
          refine g_modr K X 8 (by decide) (fun _ _ => rfl) q1407 dX8_keeps_51 ?_
          refine lv_bipush (v := 6) hx hb dX8_keeps_54 (by decide) ?_
          refine lv_iload_n hx hb dX8_keeps_56 rfl (lv_at hl 1 rfl) ?_
          refine lv_iconst (v := 1) hx hb dX8_keeps_57 (by decide) ?_
          refine lv_iadd hx hb dX8_keeps_58 ?_
          refine lv_imul hx hb dX8_keeps_59 ?_
          refine lv_aload_n hx hb dX8_keeps_60 rfl (lv_at hl 0 rfl) ?_
          refine g_modr K X 8 (by decide) (fun _ _ => rfl) q1407 dX8_keeps_61 ?_
          refine lv_bipush (v := 6) hx hb dX8_keeps_64 (by decide) ?_
          refine lv_iload_n hx hb dX8_keeps_66 rfl (lv_at hl 1 rfl) ?_
          refine lv_imul hx hb dX8_keeps_67 ?_
          obtain ⟨x11, ex11, h1⟩ := ob_out h1
          obtain ⟨Mv12, eMv12, h1⟩ := lt_out h1
          have kx11 := m_X8_copiesLongs l D ca am n Mv10 xs 8 60 8 ⟨rfl, fun _ => rfl⟩ (6 * (z21_1 + 1)) 8 60 8 ⟨rfl, fun _ => rfl⟩ (6 * z21_1) x11 ex11 H.size
          rw [← eMv12] at kx11
          refine w_callS0 K X wM_fstx kx11 hl.1 4 q1518 q1519 q97 q1520 hs_X8_copiesLongs ⟨⟨Nat.le_of_ble_eq_true rfl, Nat.le_of_ble_eq_true rfl⟩, rfl, rfl⟩ rfl rfl (Nat.le_of_ble_eq_true rfl) dX8_keeps_68 ⟨Nat.le_of_ble_eq_true rfl, Nat.le_of_ble_eq_true rfl⟩ rfl (fun H locs X => ?_)
          obtain ⟨x13, ex13, h1⟩ := lt_out h1
          refine lv_iinc (v := x13) (lv' := [(1, .int x13), (0, .ref (am 0))]) hx hb dX8_keeps_71 hl (k := 1) rfl (by rw [ex13]; rfl) (by decide) rfl (fun ls hl => ?_)
          refine lv_goto (tgt := 21) hx hb dX8_keeps_74 (by decide) ?_
          exact ih1 x13 Mv12 H locs X ls (lv_sub hl [1, 0] rfl) (wl_l h1 hx1)
    exact K21 n 0 Mv7 H locs X ls (lv_sub hl [1, 0] rfl) he1
-- X8_sets
def f_X8_sets (n : Nat) (M : RowS) (a1 : Int32) (a2 : Int32) : Option (Int32 × RowS) :=
  ob (f_X8_keeps n M) fun x1 =>
  lt (x1) fun Mv2 =>
  if 0 ≤ a1.toInt ∧ a1.toInt < 102 then
    lt (si Mv2 1 a1.toNatClampNeg a2) fun Mv4 =>
    ob (f_X8_settles n Mv4) fun x5 =>
    lt (x5.2) fun Mv6 =>
    some (x5.1, Mv6)
  else none
abbrev rm_X8_sets : Room := { frames := 9, cells := 0, slots := 0, locals := 219 }
set_option maxRecDepth 100000 in
set_option maxHeartbeats 4000000 in
theorem m_X8_sets (l : Launch) (D : va_G) (ca : Nat → ClassId) (am : Nat → Nat) (n : Nat) (M : RowS) (xs : va_W) (a1 : Int32) (a2 : Int32) (res : Int32) (M' : RowS) (h0 : f_X8_sets n M a1 a2 = some (res, M')) (sz : Nat) : Met l yX8_sets (ws_ yX8_sets cX8_sets 3 (some .int)) rm_X8_sets (PCw D ca (wM am ca M ++ xs) sz [.ref (am 0), .int a1, .int a2]) (QMw D (wM am ca M ++ xs) (wM am ca (M') ++ xs) sz (some (.int res))) 0 0 (AL (wM am ca M ++ xs) sz) := by
  refine met_of (by decide) (Nat.le_of_ble_eq_true rfl) (fun p e s m args below meth c K hr0 X hsz ls hl => ?_)
  have K : MC D ca p s m args meth c cX8_sets 3 RX8 := K
  have hx := K.1
  have hb := K.2.1
  have hl : lv_has ls 3 [(0, .ref (am 0)), (1, .int a1), (2, .int a2)] := hl
  generalize hQ : MQ below _ args s 0 0 _ = Q
  unfold f_X8_sets at h0
  suffices Z : ∀ (H : Heap) (locs : List Loc) (X : RW D (wM am ca M ++ xs) s.heap H locs), W p l e rm_X8_sets s m args below meth c H locs 0 0 Q (F0 m 0 ls []) from Z _ _ X
  intro H locs X
  refine lv_aload_n hx hb dX8_sets_0 rfl (lv_at hl 0 rfl) ?_
  obtain ⟨x1, ex1, h0⟩ := ob_out h0
  obtain ⟨Mv2, eMv2, h0⟩ := lt_out h0
  have kx1 := m_X8_keeps l D ca am n M xs x1 ex1 H.size
  rw [← eMv2] at kx1
  refine w_callV0 K X wM_fstx kx1 hl.1 0 q1832 q1834 q70 q97 q1835 hv_X8_keeps ⟨⟨Nat.le_of_ble_eq_true rfl, Nat.le_of_ble_eq_true rfl⟩, rfl, rfl⟩ pl_modo rfl rfl rfl rfl (Nat.le_of_ble_eq_true rfl) dX8_sets_1 ⟨Nat.le_of_ble_eq_true rfl, Nat.le_of_ble_eq_true rfl⟩ rfl (fun H locs X => ?_)
  refine lv_aload_n hx hb dX8_sets_4 rfl (lv_at hl 0 rfl) ?_
  refine g_modr K X 1 (by decide) (fun _ _ => rfl) q1400 dX8_sets_5 ?_
  refine lv_iload_n hx hb dX8_sets_8 rfl (lv_at hl 1 rfl) ?_
  refine lv_iload_n hx hb dX8_sets_9 rfl (lv_at hl 2 rfl) ?_
  obtain ⟨c3, h0⟩ := if_o h0
  obtain ⟨Mv4, eMv4, h0⟩ := lt_out h0
  refine s_modi K X 1 1 102 rfl (fun _ => rfl) (inb_vp c3) eMv4 dX8_sets_10 (fun H locs X => ?_)
  refine lv_aload_n hx hb dX8_sets_11 rfl (lv_at hl 0 rfl) ?_
  obtain ⟨x5, ex5, h0⟩ := ob_out h0
  obtain ⟨Mv6, eMv6, h0⟩ := lt_out h0
  have kx5 := m_X8_settles l D ca am n Mv4 xs x5.1 x5.2 ex5 H.size
  rw [← eMv6] at kx5
  refine w_callV0 K X wM_fstx kx5 hl.1 0 q1615 q1617 q43 q97 q1618 hv_X8_settles ⟨⟨Nat.le_of_ble_eq_true rfl, Nat.le_of_ble_eq_true rfl⟩, rfl, rfl⟩ pl_modo rfl rfl rfl rfl (Nat.le_of_ble_eq_true rfl) dX8_sets_12 ⟨Nat.le_of_ble_eq_true rfl, Nat.le_of_ble_eq_true rfl⟩ rfl (fun H locs X => ?_)
  have h0 := Option.some.inj h0
  obtain ⟨q_0, q_1⟩ := Prod.mk.inj h0
  subst q_0
  subst q_1
  subst hQ
  exact w_iret K hr0 X wM_fstx hsz dX8_sets_15
-- X8_setPressure
def f_X8_setPressure (n : Nat) (M : RowS) (a1 : Int32) (a2 : Int32) : Option (Int32 × RowS) :=
  lt (si M 0 0 0) fun Mv1 =>
  ob (f_X8_isPoint Mv1 a1) fun x2 =>
  lt (f_X8_fails Mv1 (b2i x2) 1) fun x3 =>
  lt (x3.2) fun Mv4 =>
  if x3.1 = true then
    some (0, Mv4)
  else
    lt (f_X8_isPressure a2) fun x6 =>
    lt (f_X8_fails Mv4 (b2i x6) 2) fun x7 =>
    lt (x7.2) fun Mv8 =>
    if x7.1 = true then
      some (0, Mv8)
    else
      ob (f_X8_sets n Mv8 (4 + a1) a2) fun x10 =>
      lt (x10.2) fun Mv11 =>
      some (x10.1, Mv11)
abbrev rm_X8_setPressure : Room := { frames := 10, cells := 0, slots := 0, locals := 241 }
set_option maxRecDepth 100000 in
set_option maxHeartbeats 4000000 in
theorem m_X8_setPressure (l : Launch) (D : va_G) (ca : Nat → ClassId) (am : Nat → Nat) (n : Nat) (M : RowS) (xs : va_W) (a1 : Int32) (a2 : Int32) (res : Int32) (M' : RowS) (h0 : f_X8_setPressure n M a1 a2 = some (res, M')) (sz : Nat) : Met l yX8_setPressure (ws_ yX8_setPressure cX8_setPressure 3 (some .int)) rm_X8_setPressure (PCw D ca (wM am ca M ++ xs) sz [.ref (am 0), .int a1, .int a2]) (QMw D (wM am ca M ++ xs) (wM am ca (M') ++ xs) sz (some (.int res))) 0 0 (AL (wM am ca M ++ xs) sz) := by
  refine met_of (by decide) (Nat.le_of_ble_eq_true rfl) (fun p e s m args below meth c K hr0 X hsz ls hl => ?_)
  have K : MC D ca p s m args meth c cX8_setPressure 3 RX8 := K
  have hx := K.1
  have hb := K.2.1
  have hl : lv_has ls 3 [(0, .ref (am 0)), (1, .int a1), (2, .int a2)] := hl
  generalize hQ : MQ below _ args s 0 0 _ = Q
  unfold f_X8_setPressure at h0
  suffices Z : ∀ (H : Heap) (locs : List Loc) (X : RW D (wM am ca M ++ xs) s.heap H locs), W p l e rm_X8_setPressure s m args below meth c H locs 0 0 Q (F0 m 0 ls []) from Z _ _ X
  intro H locs X
  refine lv_aload_n hx hb dX8_setPressure_0 rfl (lv_at hl 0 rfl) ?_
  refine lv_iconst (v := 0) hx hb dX8_setPressure_1 (by decide) ?_
  obtain ⟨Mv1, eMv1, h0⟩ := lt_out h0
  refine p_modi (ty := .int) K X 0 (by decide) (fun _ _ => rfl) (by decide +kernel) ⟨rfl, rfl⟩ eMv1 q1399 dX8_setPressure_2 (fun H locs X => ?_)
  refine lv_aload_n hx hb dX8_setPressure_5 rfl (lv_at hl 0 rfl) ?_
  refine lv_aload_n hx hb dX8_setPressure_6 rfl (lv_at hl 0 rfl) ?_
  refine lv_iload_n hx hb dX8_setPressure_7 rfl (lv_at hl 1 rfl) ?_
  obtain ⟨x2, ex2, h0⟩ := ob_out h0
  have kx2 := m_X8_isPoint l D ca am Mv1 xs a1 x2 ex2 H.size
  refine w_callV0 K X wM_fstx kx2 hl.1 1 q1689 q1691 q58 q97 q1692 hv_X8_isPoint ⟨⟨Nat.le_of_ble_eq_true rfl, Nat.le_of_ble_eq_true rfl⟩, rfl, rfl⟩ pl_modo rfl rfl rfl rfl (Nat.le_of_ble_eq_true rfl) dX8_setPressure_8 ⟨Nat.le_of_ble_eq_true rfl, Nat.le_of_ble_eq_true rfl⟩ rfl (fun H locs X => ?_)
  refine lv_iconst (v := 1) hx hb dX8_setPressure_11 (by decide) ?_
  obtain ⟨x3, ex3, h0⟩ := lt_out h0
  obtain ⟨Mv4, eMv4, h0⟩ := lt_out h0
  have kx3 := m_X8_fails l D ca am Mv1 xs (b2i x2) 1 x3.1 x3.2 ex3.symm H.size
  rw [← eMv4] at kx3
  refine w_callV0 K X wM_fstx kx3 hl.1 2 q1507 q1509 q22 q97 q1510 hv_X8_fails ⟨⟨Nat.le_of_ble_eq_true rfl, Nat.le_of_ble_eq_true rfl⟩, rfl, rfl⟩ pl_modo rfl rfl rfl rfl (Nat.le_of_ble_eq_true rfl) dX8_setPressure_12 ⟨Nat.le_of_ble_eq_true rfl, Nat.le_of_ble_eq_true rfl⟩ rfl (fun H locs X => ?_)
  refine w_zne (tgt := 30) K dX8_setPressure_15 (by decide) (fun c5 => ?_) (fun c5 => ?_)
  · have h0 := if_t c5 h0
    refine lv_iconst (v := 0) hx hb dX8_setPressure_30 (by decide) ?_
    refine lv_goto (tgt := 42) hx hb dX8_setPressure_31 (by decide) ?_
    have h0 := Option.some.inj h0
    obtain ⟨q_0, q_1⟩ := Prod.mk.inj h0
    subst q_0
    subst q_1
    subst hQ
    exact w_iret K hr0 X wM_fstx hsz dX8_setPressure_42
  · have h0 := if_f c5 h0
    refine lv_aload_n hx hb dX8_setPressure_18 rfl (lv_at hl 0 rfl) ?_
    refine lv_iload_n hx hb dX8_setPressure_19 rfl (lv_at hl 2 rfl) ?_
    obtain ⟨x6, ex6, h0⟩ := lt_out h0
    have kx6 := m_X8_isPressure l D ca (wM am ca Mv4 ++ xs) a2 x6 ex6.symm H.size
    refine w_callS0 K X wM_fstx kx6 hl.1 1 q1783 q1784 q97 q1785 hs_X8_isPressure ⟨⟨Nat.le_of_ble_eq_true rfl, Nat.le_of_ble_eq_true rfl⟩, rfl, rfl⟩ rfl rfl (Nat.le_of_ble_eq_true rfl) dX8_setPressure_20 ⟨Nat.le_of_ble_eq_true rfl, Nat.le_of_ble_eq_true rfl⟩ rfl (fun H locs X => ?_)
    refine lv_iconst (v := 2) hx hb dX8_setPressure_23 (by decide) ?_
    obtain ⟨x7, ex7, h0⟩ := lt_out h0
    obtain ⟨Mv8, eMv8, h0⟩ := lt_out h0
    have kx7 := m_X8_fails l D ca am Mv4 xs (b2i x6) 2 x7.1 x7.2 ex7.symm H.size
    rw [← eMv8] at kx7
    refine w_callV0 K X wM_fstx kx7 hl.1 2 q1507 q1509 q22 q97 q1510 hv_X8_fails ⟨⟨Nat.le_of_ble_eq_true rfl, Nat.le_of_ble_eq_true rfl⟩, rfl, rfl⟩ pl_modo rfl rfl rfl rfl (Nat.le_of_ble_eq_true rfl) dX8_setPressure_24 ⟨Nat.le_of_ble_eq_true rfl, Nat.le_of_ble_eq_true rfl⟩ rfl (fun H locs X => ?_)
    refine w_zeq (tgt := 34) K dX8_setPressure_27 (by decide) (fun c9 => ?_) (fun c9 => ?_)
    · have h0 := if_f c9 h0
      refine lv_aload_n hx hb dX8_setPressure_34 rfl (lv_at hl 0 rfl) ?_
      refine lv_iconst (v := 4) hx hb dX8_setPressure_35 (by decide) ?_
      refine lv_iload_n hx hb dX8_setPressure_36 rfl (lv_at hl 1 rfl) ?_
      refine lv_iadd hx hb dX8_setPressure_37 ?_
      refine lv_iload_n hx hb dX8_setPressure_38 rfl (lv_at hl 2 rfl) ?_
      obtain ⟨x10, ex10, h0⟩ := ob_out h0
      obtain ⟨Mv11, eMv11, h0⟩ := lt_out h0
      have kx10 := m_X8_sets l D ca am n Mv8 xs (4 + a1) a2 x10.1 x10.2 ex10 H.size
      rw [← eMv11] at kx10
      refine w_callV0 K X wM_fstx kx10 hl.1 2 q1828 q1830 q69 q97 q1831 hv_X8_sets ⟨⟨Nat.le_of_ble_eq_true rfl, Nat.le_of_ble_eq_true rfl⟩, rfl, rfl⟩ pl_modo rfl rfl rfl rfl (Nat.le_of_ble_eq_true rfl) dX8_setPressure_39 ⟨Nat.le_of_ble_eq_true rfl, Nat.le_of_ble_eq_true rfl⟩ rfl (fun H locs X => ?_)
      have h0 := Option.some.inj h0
      obtain ⟨q_0, q_1⟩ := Prod.mk.inj h0
      subst q_0
      subst q_1
      subst hQ
      exact w_iret K hr0 X wM_fstx hsz dX8_setPressure_42
    · have h0 := if_t c9 h0
      refine lv_iconst (v := 0) hx hb dX8_setPressure_30 (by decide) ?_
      refine lv_goto (tgt := 42) hx hb dX8_setPressure_31 (by decide) ?_
      have h0 := Option.some.inj h0
      obtain ⟨q_0, q_1⟩ := Prod.mk.inj h0
      subst q_0
      subst q_1
      subst hQ
      exact w_iret K hr0 X wM_fstx hsz dX8_setPressure_42
-- X8_setReference
def f_X8_setReference (n : Nat) (M : RowS) (a1 : Int32) : Option (Int32 × RowS) :=
  lt (si M 0 0 0) fun Mv1 =>
  lt (f_X8_isPressure a1) fun x2 =>
  lt (f_X8_fails Mv1 (b2i x2) 1) fun x3 =>
  lt (x3.2) fun Mv4 =>
  if x3.1 = true then
    some (0, Mv4)
  else
    ob (f_X8_sets n Mv4 1 a1) fun x6 =>
    lt (x6.2) fun Mv7 =>
    some (x6.1, Mv7)
abbrev rm_X8_setReference : Room := { frames := 10, cells := 0, slots := 0, locals := 241 }
set_option maxRecDepth 100000 in
set_option maxHeartbeats 4000000 in
theorem m_X8_setReference (l : Launch) (D : va_G) (ca : Nat → ClassId) (am : Nat → Nat) (n : Nat) (M : RowS) (xs : va_W) (a1 : Int32) (res : Int32) (M' : RowS) (h0 : f_X8_setReference n M a1 = some (res, M')) (sz : Nat) : Met l yX8_setReference (ws_ yX8_setReference cX8_setReference 2 (some .int)) rm_X8_setReference (PCw D ca (wM am ca M ++ xs) sz [.ref (am 0), .int a1]) (QMw D (wM am ca M ++ xs) (wM am ca (M') ++ xs) sz (some (.int res))) 0 0 (AL (wM am ca M ++ xs) sz) := by
  refine met_of (by decide) (Nat.le_of_ble_eq_true rfl) (fun p e s m args below meth c K hr0 X hsz ls hl => ?_)
  have K : MC D ca p s m args meth c cX8_setReference 2 RX8 := K
  have hx := K.1
  have hb := K.2.1
  have hl : lv_has ls 2 [(0, .ref (am 0)), (1, .int a1)] := hl
  generalize hQ : MQ below _ args s 0 0 _ = Q
  unfold f_X8_setReference at h0
  suffices Z : ∀ (H : Heap) (locs : List Loc) (X : RW D (wM am ca M ++ xs) s.heap H locs), W p l e rm_X8_setReference s m args below meth c H locs 0 0 Q (F0 m 0 ls []) from Z _ _ X
  intro H locs X
  refine lv_aload_n hx hb dX8_setReference_0 rfl (lv_at hl 0 rfl) ?_
  refine lv_iconst (v := 0) hx hb dX8_setReference_1 (by decide) ?_
  obtain ⟨Mv1, eMv1, h0⟩ := lt_out h0
  refine p_modi (ty := .int) K X 0 (by decide) (fun _ _ => rfl) (by decide +kernel) ⟨rfl, rfl⟩ eMv1 q1399 dX8_setReference_2 (fun H locs X => ?_)
  refine lv_aload_n hx hb dX8_setReference_5 rfl (lv_at hl 0 rfl) ?_
  refine lv_iload_n hx hb dX8_setReference_6 rfl (lv_at hl 1 rfl) ?_
  obtain ⟨x2, ex2, h0⟩ := lt_out h0
  have kx2 := m_X8_isPressure l D ca (wM am ca Mv1 ++ xs) a1 x2 ex2.symm H.size
  refine w_callS0 K X wM_fstx kx2 hl.1 1 q1783 q1784 q97 q1785 hs_X8_isPressure ⟨⟨Nat.le_of_ble_eq_true rfl, Nat.le_of_ble_eq_true rfl⟩, rfl, rfl⟩ rfl rfl (Nat.le_of_ble_eq_true rfl) dX8_setReference_7 ⟨Nat.le_of_ble_eq_true rfl, Nat.le_of_ble_eq_true rfl⟩ rfl (fun H locs X => ?_)
  refine lv_iconst (v := 1) hx hb dX8_setReference_10 (by decide) ?_
  obtain ⟨x3, ex3, h0⟩ := lt_out h0
  obtain ⟨Mv4, eMv4, h0⟩ := lt_out h0
  have kx3 := m_X8_fails l D ca am Mv1 xs (b2i x2) 1 x3.1 x3.2 ex3.symm H.size
  rw [← eMv4] at kx3
  refine w_callV0 K X wM_fstx kx3 hl.1 2 q1507 q1509 q22 q97 q1510 hv_X8_fails ⟨⟨Nat.le_of_ble_eq_true rfl, Nat.le_of_ble_eq_true rfl⟩, rfl, rfl⟩ pl_modo rfl rfl rfl rfl (Nat.le_of_ble_eq_true rfl) dX8_setReference_11 ⟨Nat.le_of_ble_eq_true rfl, Nat.le_of_ble_eq_true rfl⟩ rfl (fun H locs X => ?_)
  refine w_zeq (tgt := 21) K dX8_setReference_14 (by decide) (fun c5 => ?_) (fun c5 => ?_)
  · have h0 := if_f c5 h0
    refine lv_aload_n hx hb dX8_setReference_21 rfl (lv_at hl 0 rfl) ?_
    refine lv_iconst (v := 1) hx hb dX8_setReference_22 (by decide) ?_
    refine lv_iload_n hx hb dX8_setReference_23 rfl (lv_at hl 1 rfl) ?_
    obtain ⟨x6, ex6, h0⟩ := ob_out h0
    obtain ⟨Mv7, eMv7, h0⟩ := lt_out h0
    have kx6 := m_X8_sets l D ca am n Mv4 xs 1 a1 x6.1 x6.2 ex6 H.size
    rw [← eMv7] at kx6
    refine w_callV0 K X wM_fstx kx6 hl.1 2 q1828 q1830 q69 q97 q1831 hv_X8_sets ⟨⟨Nat.le_of_ble_eq_true rfl, Nat.le_of_ble_eq_true rfl⟩, rfl, rfl⟩ pl_modo rfl rfl rfl rfl (Nat.le_of_ble_eq_true rfl) dX8_setReference_24 ⟨Nat.le_of_ble_eq_true rfl, Nat.le_of_ble_eq_true rfl⟩ rfl (fun H locs X => ?_)
    have h0 := Option.some.inj h0
    obtain ⟨q_0, q_1⟩ := Prod.mk.inj h0
    subst q_0
    subst q_1
    subst hQ
    exact w_iret K hr0 X wM_fstx hsz dX8_setReference_27
  · have h0 := if_t c5 h0
    refine lv_iconst (v := 0) hx hb dX8_setReference_17 (by decide) ?_
    refine lv_goto (tgt := 27) hx hb dX8_setReference_18 (by decide) ?_
    have h0 := Option.some.inj h0
    obtain ⟨q_0, q_1⟩ := Prod.mk.inj h0
    subst q_0
    subst q_1
    subst hQ
    exact w_iret K hr0 X wM_fstx hsz dX8_setReference_27
-- X8_sweep
def b_X8_sweep_113  (y113_l5 : Int32) (M_113 : RowS) : Option (Int32 × RowS) :=
  some (y113_l5, M_113)
def l_X8_sweep_72 (n : Nat) (a1 : Int32) (a2 : Int32) (a3 : Int32) (x14 : Int32) (z72_5 : Int32) (z72_6 : Int32) (Mz_72 : RowS) : Option ((Int32 × Int32 × RowS) ⊕ (Int32 × RowS)) :=
  if a3 < z72_6 then
    some (.inr (z72_5, Mz_72))
  else
    if ¬ a3 = 0 then
      if 0 ≤ (4 + a1).toInt ∧ (4 + a1).toInt < 102 then
        lt (si Mz_72 1 (4 + a1).toNatClampNeg (x14 + (((a2 - x14) * z72_6) / a3))) fun Mv18 =>
        ob (f_X8_settles n Mv18) fun x19 =>
        lt (x19.2) fun Mv20 =>
        lt (z72_5 + x19.1) fun x21 =>
        lt (z72_6 + 1) fun x22 =>
        some (.inl (x21, x22, Mv20))
      else none
    else none
def b_X8_sweep_43 (n : Nat) (a1 : Int32) (a2 : Int32) (a3 : Int32) (y43_s1 : Int32) (M_43 : RowS) : Option (Int32 × RowS) :=
  lt (f_X8_fails M_43 y43_s1 2) fun x8 =>
  lt (x8.2) fun Mv9 =>
  if x8.1 = true then
    some (0, Mv9)
  else
    ob (f_X8_keeps n Mv9) fun x11 =>
    lt (x11) fun Mv12 =>
    if 0 ≤ (4 + a1).toInt ∧ (4 + a1).toInt < 102 then
      lt (Mv12.1 1 (4 + a1).toNatClampNeg) fun x14 =>
      ob (wloop (fun t => l_X8_sweep_72 n a1 a2 a3 x14 t.1 t.2.1 t.2.2) n (0, 1, Mv12)) (fun t => b_X8_sweep_113 t.1 t.2)
    else none
def b_X8_sweep_42 (n : Nat) (a1 : Int32) (a2 : Int32) (a3 : Int32) (M_42 : RowS) : Option (Int32 × RowS) :=
  b_X8_sweep_43 n a1 a2 a3 0 M_42
def f_X8_sweep (n : Nat) (M : RowS) (a1 : Int32) (a2 : Int32) (a3 : Int32) : Option (Int32 × RowS) :=
  lt (si M 0 0 0) fun Mv1 =>
  ob (f_X8_isPoint Mv1 a1) fun x2 =>
  lt (f_X8_fails Mv1 (b2i x2) 1) fun x3 =>
  lt (x3.2) fun Mv4 =>
  if x3.1 = true then
    some (0, Mv4)
  else
    lt (f_X8_isPressure a2) fun x6 =>
    if x6 = true then
      lt (f_X8_in a3.toInt64 1 50) fun x23 =>
      if x23 = true then
        b_X8_sweep_43 n a1 a2 a3 1 Mv4
      else
        b_X8_sweep_42 n a1 a2 a3 Mv4
    else
      b_X8_sweep_42 n a1 a2 a3 Mv4
abbrev rm_X8_sweep : Room := { frames := 9, cells := 0, slots := 0, locals := 219 }
set_option maxRecDepth 100000 in
set_option maxHeartbeats 4000000 in
theorem m_X8_sweep (l : Launch) (D : va_G) (ca : Nat → ClassId) (am : Nat → Nat) (n : Nat) (M : RowS) (xs : va_W) (a1 : Int32) (a2 : Int32) (a3 : Int32) (res : Int32) (M' : RowS) (h0 : f_X8_sweep n M a1 a2 a3 = some (res, M')) (sz : Nat) : Met l yX8_sweep (ws_ yX8_sweep cX8_sweep 7 (some .int)) rm_X8_sweep (PCw D ca (wM am ca M ++ xs) sz [.ref (am 0), .int a1, .int a2, .int a3]) (QMw D (wM am ca M ++ xs) (wM am ca (M') ++ xs) sz (some (.int res))) 0 0 (AL (wM am ca M ++ xs) sz) := by
  refine met_of (by decide) (Nat.le_of_ble_eq_true rfl) (fun p e s m args below meth c K hr0 X hsz ls hl => ?_)
  have K : MC D ca p s m args meth c cX8_sweep 7 RX8 := K
  have hx := K.1
  have hb := K.2.1
  have hl : lv_has ls 7 [(0, .ref (am 0)), (1, .int a1), (2, .int a2), (3, .int a3)] := hl
  generalize hQ : MQ below _ args s 0 0 _ = Q
  unfold f_X8_sweep at h0
  suffices Z : ∀ (H : Heap) (locs : List Loc) (X : RW D (wM am ca M ++ xs) s.heap H locs), W p l e rm_X8_sweep s m args below meth c H locs 0 0 Q (F0 m 0 ls []) from Z _ _ X
  intro H locs X
  have J113 : ∀ (y113_l5 : Int32) (M_113 : RowS) (H : Heap) (locs : List Loc) (X : RW D (wM am ca M_113 ++ xs) s.heap H locs) (ls : Array Slot) (hl : lv_has ls 7 [(5, .int y113_l5)]) (h0 : b_X8_sweep_113 y113_l5 M_113 = some (res, M')), W p l e rm_X8_sweep s m args below meth c H locs 0 0 Q (F0 m 113 ls []) := by
    intro y113_l5 M_113 H locs X ls hl h0
    unfold b_X8_sweep_113 at h0
    refine lv_iload hx hb dX8_sweep_113 (lv_at hl 0 rfl) ?_
    have h0 := Option.some.inj h0
    obtain ⟨q_0, q_1⟩ := Prod.mk.inj h0
    subst q_0
    subst q_1
    subst hQ
    exact w_iret K hr0 X wM_fstx hsz dX8_sweep_115
  have J43 : ∀ (y43_s1 : Int32) (M_43 : RowS) (H : Heap) (locs : List Loc) (X : RW D (wM am ca M_43 ++ xs) s.heap H locs) (ls : Array Slot) (hl : lv_has ls 7 [(0, .ref (am 0)), (1, .int a1), (2, .int a2), (3, .int a3)]) (h0 : b_X8_sweep_43 n a1 a2 a3 y43_s1 M_43 = some (res, M')), W p l e rm_X8_sweep s m args below meth c H locs 0 0 Q (F0 m 43 ls [.int y43_s1, .ref (am 0)]) := by
    intro y43_s1 M_43 H locs X ls hl h0
    unfold b_X8_sweep_43 at h0
    refine lv_iconst (v := 2) hx hb dX8_sweep_43 (by decide) ?_
    obtain ⟨x8, ex8, h0⟩ := lt_out h0
    obtain ⟨Mv9, eMv9, h0⟩ := lt_out h0
    have kx8 := m_X8_fails l D ca am M_43 xs y43_s1 2 x8.1 x8.2 ex8.symm H.size
    rw [← eMv9] at kx8
    refine w_callV0 K X wM_fstx kx8 hl.1 2 q1507 q1509 q22 q97 q1510 hv_X8_fails ⟨⟨Nat.le_of_ble_eq_true rfl, Nat.le_of_ble_eq_true rfl⟩, rfl, rfl⟩ pl_modo rfl rfl rfl rfl (Nat.le_of_ble_eq_true rfl) dX8_sweep_44 ⟨Nat.le_of_ble_eq_true rfl, Nat.le_of_ble_eq_true rfl⟩ rfl (fun H locs X => ?_)
    refine w_zeq (tgt := 52) K dX8_sweep_47 (by decide) (fun c10 => ?_) (fun c10 => ?_)
    · have h0 := if_f c10 h0
      refine lv_aload_n hx hb dX8_sweep_52 rfl (lv_at hl 0 rfl) ?_
      obtain ⟨x11, ex11, h0⟩ := ob_out h0
      obtain ⟨Mv12, eMv12, h0⟩ := lt_out h0
      have kx11 := m_X8_keeps l D ca am n Mv9 xs x11 ex11 H.size
      rw [← eMv12] at kx11
      refine w_callV0 K X wM_fstx kx11 hl.1 0 q1832 q1834 q70 q97 q1835 hv_X8_keeps ⟨⟨Nat.le_of_ble_eq_true rfl, Nat.le_of_ble_eq_true rfl⟩, rfl, rfl⟩ pl_modo rfl rfl rfl rfl (Nat.le_of_ble_eq_true rfl) dX8_sweep_53 ⟨Nat.le_of_ble_eq_true rfl, Nat.le_of_ble_eq_true rfl⟩ rfl (fun H locs X => ?_)
      refine lv_aload_n hx hb dX8_sweep_56 rfl (lv_at hl 0 rfl) ?_
      refine g_modr K X 1 (by decide) (fun _ _ => rfl) q1400 dX8_sweep_57 ?_
      refine lv_iconst (v := 4) hx hb dX8_sweep_60 (by decide) ?_
      refine lv_iload_n hx hb dX8_sweep_61 rfl (lv_at hl 1 rfl) ?_
      refine lv_iadd hx hb dX8_sweep_62 ?_
      obtain ⟨c13, h0⟩ := if_o h0
      refine a_modi K X 1 1 102 rfl rfl (inb_vp c13) dX8_sweep_63 ?_
      obtain ⟨x14, ex14, h0⟩ := lt_out h0
      refine w_int ex14 ?_
      refine lv_istore (lv' := [(4, .int x14), (0, .ref (am 0)), (1, .int a1), (2, .int a2), (3, .int a3)]) hx hb dX8_sweep_64 hl (by decide) rfl (fun ls hl => ?_)
      refine lv_iconst (v := 0) hx hb dX8_sweep_66 (by decide) ?_
      refine lv_istore (lv' := [(5, .int 0), (4, .int x14), (0, .ref (am 0)), (1, .int a1), (2, .int a2), (3, .int a3)]) hx hb dX8_sweep_67 hl (by decide) rfl (fun ls hl => ?_)
      refine lv_iconst (v := 1) hx hb dX8_sweep_69 (by decide) ?_
      refine lv_istore (lv' := [(6, .int 1), (5, .int 0), (4, .int x14), (0, .ref (am 0)), (1, .int a1), (2, .int a2), (3, .int a3)]) hx hb dX8_sweep_70 hl (by decide) rfl (fun ls hl => ?_)
      obtain ⟨e_1, he1, h0⟩ := ob_out h0
      have K72 : ∀ (k : Nat) (z72_5 : Int32) (z72_6 : Int32) (Mz_72 : RowS) (H : Heap) (locs : List Loc) (X : RW D (wM am ca Mz_72 ++ xs) s.heap H locs) (ls : Array Slot) (hl : lv_has ls 7 [(0, .ref (am 0)), (1, .int a1), (2, .int a2), (3, .int a3), (4, .int x14), (5, .int z72_5), (6, .int z72_6)]) (hw : wloop (fun t => l_X8_sweep_72 n a1 a2 a3 x14 t.1 t.2.1 t.2.2) k (z72_5, z72_6, Mz_72) = some e_1), W p l e rm_X8_sweep s m args below meth c H locs 0 0 Q (F0 m 72 ls []) := by
        intro k
        induction k with
        | zero => intro z72_5 z72_6 Mz_72 H locs X ls hl hw; exact (wloop_0 hw).elim
        | succ k ih1 =>
          intro z72_5 z72_6 Mz_72 H locs X ls hl hw
          obtain ⟨x_1, h1, hx1⟩ := wloop_out hw
          have h1 : l_X8_sweep_72 n a1 a2 a3 x14 z72_5 z72_6 Mz_72 = some x_1 := h1
          unfold l_X8_sweep_72 at h1
          refine lv_iload hx hb dX8_sweep_72 (lv_at hl 6 rfl) ?_
          refine lv_iload_n hx hb dX8_sweep_74 rfl (lv_at hl 3 rfl) ?_
          refine lv_icmp_gt (tgt := 113) hx hb dX8_sweep_75 (by decide) (fun c15 => ?_) (fun c15 => ?_)
          · have h1 := if_t c15 h1
            have q1 := wl_r h1 hx1
            exact J113 z72_5 Mz_72 H locs X ls (lv_sub hl [5] rfl) (by rw [q1] at h0; exact h0)
          · have h1 := if_f c15 h1
            refine lv_aload_n hx hb dX8_sweep_78 rfl (lv_at hl 0 rfl) ?_
            refine g_modr K X 1 (by decide) (fun _ _ => rfl) q1400 dX8_sweep_79 ?_
            refine lv_iconst (v := 4) hx hb dX8_sweep_82 (by decide) ?_
            refine lv_iload_n hx hb dX8_sweep_83 rfl (lv_at hl 1 rfl) ?_
            refine lv_iadd hx hb dX8_sweep_84 ?_
            refine lv_iload hx hb dX8_sweep_85 (lv_at hl 4 rfl) ?_
            refine lv_iload_n hx hb dX8_sweep_87 rfl (lv_at hl 2 rfl) ?_
            refine lv_iload hx hb dX8_sweep_88 (lv_at hl 4 rfl) ?_
            refine lv_isub hx hb dX8_sweep_90 ?_
            refine lv_iload hx hb dX8_sweep_91 (lv_at hl 6 rfl) ?_
            refine lv_imul hx hb dX8_sweep_93 ?_
            refine lv_iload_n hx hb dX8_sweep_94 rfl (lv_at hl 3 rfl) ?_
            obtain ⟨c16, h1⟩ := if_o h1
            refine lv_idiv hx hb dX8_sweep_95 c16 ?_
            refine lv_iadd hx hb dX8_sweep_96 ?_
            obtain ⟨c17, h1⟩ := if_o h1
            obtain ⟨Mv18, eMv18, h1⟩ := lt_out h1
            refine s_modi K X 1 1 102 rfl (fun _ => rfl) (inb_vp c17) eMv18 dX8_sweep_97 (fun H locs X => ?_)
            refine lv_iload hx hb dX8_sweep_98 (lv_at hl 5 rfl) ?_
            refine lv_aload_n hx hb dX8_sweep_100 rfl (lv_at hl 0 rfl) ?_
            obtain ⟨x19, ex19, h1⟩ := ob_out h1
            obtain ⟨Mv20, eMv20, h1⟩ := lt_out h1
            have kx19 := m_X8_settles l D ca am n Mv18 xs x19.1 x19.2 ex19 H.size
            rw [← eMv20] at kx19
            refine w_callV0 K X wM_fstx kx19 hl.1 0 q1615 q1617 q43 q97 q1618 hv_X8_settles ⟨⟨Nat.le_of_ble_eq_true rfl, Nat.le_of_ble_eq_true rfl⟩, rfl, rfl⟩ pl_modo rfl rfl rfl rfl (Nat.le_of_ble_eq_true rfl) dX8_sweep_101 ⟨Nat.le_of_ble_eq_true rfl, Nat.le_of_ble_eq_true rfl⟩ rfl (fun H locs X => ?_)
            refine lv_iadd hx hb dX8_sweep_104 ?_
            obtain ⟨x21, ex21, h1⟩ := lt_out h1
            refine w_int ex21 ?_
            refine lv_istore (lv' := [(5, .int x21), (0, .ref (am 0)), (1, .int a1), (2, .int a2), (3, .int a3), (4, .int x14), (6, .int z72_6)]) hx hb dX8_sweep_105 hl (by decide) rfl (fun ls hl => ?_)
            obtain ⟨x22, ex22, h1⟩ := lt_out h1
            refine lv_iinc (v := x22) (lv' := [(6, .int x22), (5, .int x21), (0, .ref (am 0)), (1, .int a1), (2, .int a2), (3, .int a3), (4, .int x14)]) hx hb dX8_sweep_107 hl (k := 6) rfl (by rw [ex22]; rfl) (by decide) rfl (fun ls hl => ?_)
            refine lv_goto (tgt := 72) hx hb dX8_sweep_110 (by decide) ?_
            exact ih1 x21 x22 Mv20 H locs X ls (lv_sub hl [2, 3, 4, 5, 6, 1, 0] rfl) (wl_l h1 hx1)
      exact K72 n 0 1 Mv12 H locs X ls (lv_sub hl [3, 4, 5, 6, 2, 1, 0] rfl) he1
    · have h0 := if_t c10 h0
      refine lv_iconst (v := 0) hx hb dX8_sweep_50 (by decide) ?_
      have h0 := Option.some.inj h0
      obtain ⟨q_0, q_1⟩ := Prod.mk.inj h0
      subst q_0
      subst q_1
      subst hQ
      exact w_iret K hr0 X wM_fstx hsz dX8_sweep_51
  have J42 : ∀ (M_42 : RowS) (H : Heap) (locs : List Loc) (X : RW D (wM am ca M_42 ++ xs) s.heap H locs) (ls : Array Slot) (hl : lv_has ls 7 [(0, .ref (am 0)), (1, .int a1), (2, .int a2), (3, .int a3)]) (h0 : b_X8_sweep_42 n a1 a2 a3 M_42 = some (res, M')), W p l e rm_X8_sweep s m args below meth c H locs 0 0 Q (F0 m 42 ls [.ref (am 0)]) := by
    intro M_42 H locs X ls hl h0
    unfold b_X8_sweep_42 at h0
    refine lv_iconst (v := 0) hx hb dX8_sweep_42 (by decide) ?_
    exact J43 0 M_42 H locs X ls (lv_sub hl [0, 1, 2, 3] rfl) h0
  refine lv_aload_n hx hb dX8_sweep_0 rfl (lv_at hl 0 rfl) ?_
  refine lv_iconst (v := 0) hx hb dX8_sweep_1 (by decide) ?_
  obtain ⟨Mv1, eMv1, h0⟩ := lt_out h0
  refine p_modi (ty := .int) K X 0 (by decide) (fun _ _ => rfl) (by decide +kernel) ⟨rfl, rfl⟩ eMv1 q1399 dX8_sweep_2 (fun H locs X => ?_)
  refine lv_aload_n hx hb dX8_sweep_5 rfl (lv_at hl 0 rfl) ?_
  refine lv_aload_n hx hb dX8_sweep_6 rfl (lv_at hl 0 rfl) ?_
  refine lv_iload_n hx hb dX8_sweep_7 rfl (lv_at hl 1 rfl) ?_
  obtain ⟨x2, ex2, h0⟩ := ob_out h0
  have kx2 := m_X8_isPoint l D ca am Mv1 xs a1 x2 ex2 H.size
  refine w_callV0 K X wM_fstx kx2 hl.1 1 q1689 q1691 q58 q97 q1692 hv_X8_isPoint ⟨⟨Nat.le_of_ble_eq_true rfl, Nat.le_of_ble_eq_true rfl⟩, rfl, rfl⟩ pl_modo rfl rfl rfl rfl (Nat.le_of_ble_eq_true rfl) dX8_sweep_8 ⟨Nat.le_of_ble_eq_true rfl, Nat.le_of_ble_eq_true rfl⟩ rfl (fun H locs X => ?_)
  refine lv_iconst (v := 1) hx hb dX8_sweep_11 (by decide) ?_
  obtain ⟨x3, ex3, h0⟩ := lt_out h0
  obtain ⟨Mv4, eMv4, h0⟩ := lt_out h0
  have kx3 := m_X8_fails l D ca am Mv1 xs (b2i x2) 1 x3.1 x3.2 ex3.symm H.size
  rw [← eMv4] at kx3
  refine w_callV0 K X wM_fstx kx3 hl.1 2 q1507 q1509 q22 q97 q1510 hv_X8_fails ⟨⟨Nat.le_of_ble_eq_true rfl, Nat.le_of_ble_eq_true rfl⟩, rfl, rfl⟩ pl_modo rfl rfl rfl rfl (Nat.le_of_ble_eq_true rfl) dX8_sweep_12 ⟨Nat.le_of_ble_eq_true rfl, Nat.le_of_ble_eq_true rfl⟩ rfl (fun H locs X => ?_)
  refine w_zne (tgt := 50) K dX8_sweep_15 (by decide) (fun c5 => ?_) (fun c5 => ?_)
  · have h0 := if_t c5 h0
    refine lv_iconst (v := 0) hx hb dX8_sweep_50 (by decide) ?_
    have h0 := Option.some.inj h0
    obtain ⟨q_0, q_1⟩ := Prod.mk.inj h0
    subst q_0
    subst q_1
    subst hQ
    exact w_iret K hr0 X wM_fstx hsz dX8_sweep_51
  · have h0 := if_f c5 h0
    refine lv_aload_n hx hb dX8_sweep_18 rfl (lv_at hl 0 rfl) ?_
    refine lv_iload_n hx hb dX8_sweep_19 rfl (lv_at hl 2 rfl) ?_
    obtain ⟨x6, ex6, h0⟩ := lt_out h0
    have kx6 := m_X8_isPressure l D ca (wM am ca Mv4 ++ xs) a2 x6 ex6.symm H.size
    refine w_callS0 K X wM_fstx kx6 hl.1 1 q1783 q1784 q97 q1785 hs_X8_isPressure ⟨⟨Nat.le_of_ble_eq_true rfl, Nat.le_of_ble_eq_true rfl⟩, rfl, rfl⟩ rfl rfl (Nat.le_of_ble_eq_true rfl) dX8_sweep_20 ⟨Nat.le_of_ble_eq_true rfl, Nat.le_of_ble_eq_true rfl⟩ rfl (fun H locs X => ?_)
    refine w_zeq (tgt := 42) K dX8_sweep_23 (by decide) (fun c7 => ?_) (fun c7 => ?_)
    · have h0 := if_f c7 h0
      exact J42 Mv4 H locs X ls (lv_sub hl [0, 1, 2, 3] rfl) h0
    · have h0 := if_t c7 h0
      refine lv_iload_n hx hb dX8_sweep_26 rfl (lv_at hl 3 rfl) ?_
      refine lv_i2l hx hb dX8_sweep_27 rfl ?_
      refine lv_lconst (v := 1) hx hb dX8_sweep_28 (by decide) ?_
      refine lv_ldc2 hx hb K.2.2.2.1 (K.2.2.2.2.1 _ q1844) dX8_sweep_29 ?_
      obtain ⟨x23, ex23, h0⟩ := lt_out h0
      have kx23 := m_X8_in l D ca (wM am ca Mv4 ++ xs) a3.toInt64 1 50 x23 ex23.symm H.size
      refine w_callS0 K X wM_fstx kx23 hl.1 3 q1504 q1505 q97 q1506 hs_X8_in ⟨⟨Nat.le_of_ble_eq_true rfl, Nat.le_of_ble_eq_true rfl⟩, rfl, rfl⟩ rfl rfl (Nat.le_of_ble_eq_true rfl) dX8_sweep_32 ⟨Nat.le_of_ble_eq_true rfl, Nat.le_of_ble_eq_true rfl⟩ rfl (fun H locs X => ?_)
      refine w_zeq (tgt := 42) K dX8_sweep_35 (by decide) (fun c24 => ?_) (fun c24 => ?_)
      · have h0 := if_f c24 h0
        exact J42 Mv4 H locs X ls (lv_sub hl [0, 1, 2, 3] rfl) h0
      · have h0 := if_t c24 h0
        refine lv_iconst (v := 1) hx hb dX8_sweep_38 (by decide) ?_
        refine lv_goto (tgt := 43) hx hb dX8_sweep_39 (by decide) ?_
        exact J43 1 Mv4 H locs X ls (lv_sub hl [0, 1, 2, 3] rfl) h0
-- X8_isSlant
def f_X8_isSlant (a1 : Int32) : Bool :=
  lt (f_X8_in a1.toInt64 50 1000) fun x1 =>
  x1
abbrev rm_X8_isSlant : Room := { frames := 1, cells := 0, slots := 0, locals := 25 }
set_option maxRecDepth 100000 in
set_option maxHeartbeats 4000000 in
theorem m_X8_isSlant (l : Launch) (D : va_G) (ca : Nat → ClassId) (ws : va_W) (a1 : Int32) (res : Bool) (h0 : f_X8_isSlant a1 = res) (sz : Nat) : Met l yX8_isSlant (ws_ yX8_isSlant cX8_isSlant 1 (some .boolean)) rm_X8_isSlant (PCw D ca (ws) sz [.int a1]) (QMw D (ws) (ws) sz (some (.int (b2i res)))) 0 0 (AL (ws) sz) := by
  refine met_of (by decide) (Nat.le_of_ble_eq_true rfl) (fun p e s m args below meth c K hr0 X hsz ls hl => ?_)
  have K : MC D ca p s m args meth c cX8_isSlant 1 RX8 := K
  have hx := K.1
  have hb := K.2.1
  have hl : lv_has ls 1 [(0, .int a1)] := hl
  generalize hQ : MQ below _ args s 0 0 _ = Q
  unfold f_X8_isSlant at h0
  suffices Z : ∀ (H : Heap) (locs : List Loc) (X : RW D (ws) s.heap H locs), W p l e rm_X8_isSlant s m args below meth c H locs 0 0 Q (F0 m 0 ls []) from Z _ _ X
  intro H locs X
  refine lv_iload_n hx hb dX8_isSlant_0 rfl (lv_at hl 0 rfl) ?_
  refine lv_i2l hx hb dX8_isSlant_1 rfl ?_
  refine lv_ldc2 hx hb K.2.2.2.1 (K.2.2.2.2.1 _ q1844) dX8_isSlant_2 ?_
  refine lv_ldc2 hx hb K.2.2.2.1 (K.2.2.2.2.1 _ q1671) dX8_isSlant_5 ?_
  obtain ⟨x1, ex1, h0⟩ := lt_out h0
  have kx1 := m_X8_in l D ca (ws) a1.toInt64 50 1000 x1 ex1.symm H.size
  refine w_callS0 K X rfl kx1 hl.1 3 q1504 q1505 q97 q1506 hs_X8_in ⟨⟨Nat.le_of_ble_eq_true rfl, Nat.le_of_ble_eq_true rfl⟩, rfl, rfl⟩ rfl rfl (Nat.le_of_ble_eq_true rfl) dX8_isSlant_8 ⟨Nat.le_of_ble_eq_true rfl, Nat.le_of_ble_eq_true rfl⟩ rfl (fun H locs X => ?_)
  subst h0
  subst hQ
  exact w_zret K hr0 X rfl hsz (b2i_nar _) dX8_isSlant_11
-- X8_setSlant
def f_X8_setSlant (n : Nat) (M : RowS) (a1 : Int32) (a2 : Int32) : Option (Int32 × RowS) :=
  lt (si M 0 0 0) fun Mv1 =>
  ob (f_X8_isTube Mv1 a1) fun x2 =>
  lt (f_X8_fails Mv1 (b2i x2) 1) fun x3 =>
  lt (x3.2) fun Mv4 =>
  if x3.1 = true then
    some (0, Mv4)
  else
    lt (f_X8_isSlant a2) fun x6 =>
    lt (f_X8_fails Mv4 (b2i x6) 2) fun x7 =>
    lt (x7.2) fun Mv8 =>
    if x7.1 = true then
      some (0, Mv8)
    else
      lt (f_X8_cell a1 3) fun x10 =>
      ob (f_X8_sets n Mv8 x10 a2) fun x11 =>
      lt (x11.2) fun Mv12 =>
      some (x11.1, Mv12)
abbrev rm_X8_setSlant : Room := { frames := 10, cells := 0, slots := 0, locals := 241 }
set_option maxRecDepth 100000 in
set_option maxHeartbeats 4000000 in
theorem m_X8_setSlant (l : Launch) (D : va_G) (ca : Nat → ClassId) (am : Nat → Nat) (n : Nat) (M : RowS) (xs : va_W) (a1 : Int32) (a2 : Int32) (res : Int32) (M' : RowS) (h0 : f_X8_setSlant n M a1 a2 = some (res, M')) (sz : Nat) : Met l yX8_setSlant (ws_ yX8_setSlant cX8_setSlant 3 (some .int)) rm_X8_setSlant (PCw D ca (wM am ca M ++ xs) sz [.ref (am 0), .int a1, .int a2]) (QMw D (wM am ca M ++ xs) (wM am ca (M') ++ xs) sz (some (.int res))) 0 0 (AL (wM am ca M ++ xs) sz) := by
  refine met_of (by decide) (Nat.le_of_ble_eq_true rfl) (fun p e s m args below meth c K hr0 X hsz ls hl => ?_)
  have K : MC D ca p s m args meth c cX8_setSlant 3 RX8 := K
  have hx := K.1
  have hb := K.2.1
  have hl : lv_has ls 3 [(0, .ref (am 0)), (1, .int a1), (2, .int a2)] := hl
  generalize hQ : MQ below _ args s 0 0 _ = Q
  unfold f_X8_setSlant at h0
  suffices Z : ∀ (H : Heap) (locs : List Loc) (X : RW D (wM am ca M ++ xs) s.heap H locs), W p l e rm_X8_setSlant s m args below meth c H locs 0 0 Q (F0 m 0 ls []) from Z _ _ X
  intro H locs X
  refine lv_aload_n hx hb dX8_setSlant_0 rfl (lv_at hl 0 rfl) ?_
  refine lv_iconst (v := 0) hx hb dX8_setSlant_1 (by decide) ?_
  obtain ⟨Mv1, eMv1, h0⟩ := lt_out h0
  refine p_modi (ty := .int) K X 0 (by decide) (fun _ _ => rfl) (by decide +kernel) ⟨rfl, rfl⟩ eMv1 q1399 dX8_setSlant_2 (fun H locs X => ?_)
  refine lv_aload_n hx hb dX8_setSlant_5 rfl (lv_at hl 0 rfl) ?_
  refine lv_aload_n hx hb dX8_setSlant_6 rfl (lv_at hl 0 rfl) ?_
  refine lv_iload_n hx hb dX8_setSlant_7 rfl (lv_at hl 1 rfl) ?_
  obtain ⟨x2, ex2, h0⟩ := ob_out h0
  have kx2 := m_X8_isTube l D ca am Mv1 xs a1 x2 ex2 H.size
  refine w_callV0 K X wM_fstx kx2 hl.1 1 q1714 q1716 q60 q97 q1717 hv_X8_isTube ⟨⟨Nat.le_of_ble_eq_true rfl, Nat.le_of_ble_eq_true rfl⟩, rfl, rfl⟩ pl_modo rfl rfl rfl rfl (Nat.le_of_ble_eq_true rfl) dX8_setSlant_8 ⟨Nat.le_of_ble_eq_true rfl, Nat.le_of_ble_eq_true rfl⟩ rfl (fun H locs X => ?_)
  refine lv_iconst (v := 1) hx hb dX8_setSlant_11 (by decide) ?_
  obtain ⟨x3, ex3, h0⟩ := lt_out h0
  obtain ⟨Mv4, eMv4, h0⟩ := lt_out h0
  have kx3 := m_X8_fails l D ca am Mv1 xs (b2i x2) 1 x3.1 x3.2 ex3.symm H.size
  rw [← eMv4] at kx3
  refine w_callV0 K X wM_fstx kx3 hl.1 2 q1507 q1509 q22 q97 q1510 hv_X8_fails ⟨⟨Nat.le_of_ble_eq_true rfl, Nat.le_of_ble_eq_true rfl⟩, rfl, rfl⟩ pl_modo rfl rfl rfl rfl (Nat.le_of_ble_eq_true rfl) dX8_setSlant_12 ⟨Nat.le_of_ble_eq_true rfl, Nat.le_of_ble_eq_true rfl⟩ rfl (fun H locs X => ?_)
  refine w_zne (tgt := 30) K dX8_setSlant_15 (by decide) (fun c5 => ?_) (fun c5 => ?_)
  · have h0 := if_t c5 h0
    refine lv_iconst (v := 0) hx hb dX8_setSlant_30 (by decide) ?_
    refine lv_goto (tgt := 44) hx hb dX8_setSlant_31 (by decide) ?_
    have h0 := Option.some.inj h0
    obtain ⟨q_0, q_1⟩ := Prod.mk.inj h0
    subst q_0
    subst q_1
    subst hQ
    exact w_iret K hr0 X wM_fstx hsz dX8_setSlant_44
  · have h0 := if_f c5 h0
    refine lv_aload_n hx hb dX8_setSlant_18 rfl (lv_at hl 0 rfl) ?_
    refine lv_iload_n hx hb dX8_setSlant_19 rfl (lv_at hl 2 rfl) ?_
    obtain ⟨x6, ex6, h0⟩ := lt_out h0
    have kx6 := m_X8_isSlant l D ca (wM am ca Mv4 ++ xs) a2 x6 ex6.symm H.size
    refine w_callS0 K X wM_fstx kx6 hl.1 1 q1849 q1850 q97 q1851 hs_X8_isSlant ⟨⟨Nat.le_of_ble_eq_true rfl, Nat.le_of_ble_eq_true rfl⟩, rfl, rfl⟩ rfl rfl (Nat.le_of_ble_eq_true rfl) dX8_setSlant_20 ⟨Nat.le_of_ble_eq_true rfl, Nat.le_of_ble_eq_true rfl⟩ rfl (fun H locs X => ?_)
    refine lv_iconst (v := 2) hx hb dX8_setSlant_23 (by decide) ?_
    obtain ⟨x7, ex7, h0⟩ := lt_out h0
    obtain ⟨Mv8, eMv8, h0⟩ := lt_out h0
    have kx7 := m_X8_fails l D ca am Mv4 xs (b2i x6) 2 x7.1 x7.2 ex7.symm H.size
    rw [← eMv8] at kx7
    refine w_callV0 K X wM_fstx kx7 hl.1 2 q1507 q1509 q22 q97 q1510 hv_X8_fails ⟨⟨Nat.le_of_ble_eq_true rfl, Nat.le_of_ble_eq_true rfl⟩, rfl, rfl⟩ pl_modo rfl rfl rfl rfl (Nat.le_of_ble_eq_true rfl) dX8_setSlant_24 ⟨Nat.le_of_ble_eq_true rfl, Nat.le_of_ble_eq_true rfl⟩ rfl (fun H locs X => ?_)
    refine w_zeq (tgt := 34) K dX8_setSlant_27 (by decide) (fun c9 => ?_) (fun c9 => ?_)
    · have h0 := if_f c9 h0
      refine lv_aload_n hx hb dX8_setSlant_34 rfl (lv_at hl 0 rfl) ?_
      refine lv_iload_n hx hb dX8_setSlant_35 rfl (lv_at hl 1 rfl) ?_
      refine lv_iconst (v := 3) hx hb dX8_setSlant_36 (by decide) ?_
      obtain ⟨x10, ex10, h0⟩ := lt_out h0
      have kx10 := m_X8_cell l D ca (wM am ca Mv8 ++ xs) a1 3 x10 ex10.symm H.size
      refine w_callS0 K X wM_fstx kx10 hl.1 2 q1598 q1599 q97 q1600 hs_X8_cell ⟨⟨Nat.le_of_ble_eq_true rfl, Nat.le_of_ble_eq_true rfl⟩, rfl, rfl⟩ rfl rfl (Nat.le_of_ble_eq_true rfl) dX8_setSlant_37 ⟨Nat.le_of_ble_eq_true rfl, Nat.le_of_ble_eq_true rfl⟩ rfl (fun H locs X => ?_)
      refine lv_iload_n hx hb dX8_setSlant_40 rfl (lv_at hl 2 rfl) ?_
      obtain ⟨x11, ex11, h0⟩ := ob_out h0
      obtain ⟨Mv12, eMv12, h0⟩ := lt_out h0
      have kx11 := m_X8_sets l D ca am n Mv8 xs x10 a2 x11.1 x11.2 ex11 H.size
      rw [← eMv12] at kx11
      refine w_callV0 K X wM_fstx kx11 hl.1 2 q1828 q1830 q69 q97 q1831 hv_X8_sets ⟨⟨Nat.le_of_ble_eq_true rfl, Nat.le_of_ble_eq_true rfl⟩, rfl, rfl⟩ pl_modo rfl rfl rfl rfl (Nat.le_of_ble_eq_true rfl) dX8_setSlant_41 ⟨Nat.le_of_ble_eq_true rfl, Nat.le_of_ble_eq_true rfl⟩ rfl (fun H locs X => ?_)
      have h0 := Option.some.inj h0
      obtain ⟨q_0, q_1⟩ := Prod.mk.inj h0
      subst q_0
      subst q_1
      subst hQ
      exact w_iret K hr0 X wM_fstx hsz dX8_setSlant_44
    · have h0 := if_t c9 h0
      refine lv_iconst (v := 0) hx hb dX8_setSlant_30 (by decide) ?_
      refine lv_goto (tgt := 44) hx hb dX8_setSlant_31 (by decide) ?_
      have h0 := Option.some.inj h0
      obtain ⟨q_0, q_1⟩ := Prod.mk.inj h0
      subst q_0
      subst q_1
      subst hQ
      exact w_iret K hr0 X wM_fstx hsz dX8_setSlant_44
-- X8_setMark
def f_X8_setMark (n : Nat) (M : RowS) (a1 : Int32) : Option (Int32 × RowS) :=
  lt (si M 0 0 0) fun Mv1 =>
  ob (f_X8_isTube Mv1 a1) fun x2 =>
  lt (f_X8_fails Mv1 (b2i x2) 1) fun x3 =>
  lt (x3.2) fun Mv4 =>
  if x3.1 = true then
    some (0, Mv4)
  else
    ob (f_X8_isWhole Mv4 a1) fun x6 =>
    if x6 = true then
      ob (f_X8_columnOf n Mv4 a1) fun x8 =>
      lt (-(x8 / 10)) fun x9 =>
      if (-9999) ≤ x9 then
        lt (f_X8_cell a1 5) fun x11 =>
        ob (f_X8_sets n Mv4 x11 x9) fun x12 =>
        lt (x12.2) fun Mv13 =>
        lt (x12.1) fun x14 =>
        some (x9, Mv13)
      else
        some ((-1000000001), Mv4)
    else
      some ((-1000000000), Mv4)
abbrev rm_X8_setMark : Room := { frames := 10, cells := 0, slots := 0, locals := 241 }
set_option maxRecDepth 100000 in
set_option maxHeartbeats 4000000 in
theorem m_X8_setMark (l : Launch) (D : va_G) (ca : Nat → ClassId) (am : Nat → Nat) (n : Nat) (M : RowS) (xs : va_W) (a1 : Int32) (res : Int32) (M' : RowS) (h0 : f_X8_setMark n M a1 = some (res, M')) (sz : Nat) : Met l yX8_setMark (ws_ yX8_setMark cX8_setMark 4 (some .int)) rm_X8_setMark (PCw D ca (wM am ca M ++ xs) sz [.ref (am 0), .int a1]) (QMw D (wM am ca M ++ xs) (wM am ca (M') ++ xs) sz (some (.int res))) 0 0 (AL (wM am ca M ++ xs) sz) := by
  refine met_of (by decide) (Nat.le_of_ble_eq_true rfl) (fun p e s m args below meth c K hr0 X hsz ls hl => ?_)
  have K : MC D ca p s m args meth c cX8_setMark 4 RX8 := K
  have hx := K.1
  have hb := K.2.1
  have hl : lv_has ls 4 [(0, .ref (am 0)), (1, .int a1)] := hl
  generalize hQ : MQ below _ args s 0 0 _ = Q
  unfold f_X8_setMark at h0
  suffices Z : ∀ (H : Heap) (locs : List Loc) (X : RW D (wM am ca M ++ xs) s.heap H locs), W p l e rm_X8_setMark s m args below meth c H locs 0 0 Q (F0 m 0 ls []) from Z _ _ X
  intro H locs X
  refine lv_aload_n hx hb dX8_setMark_0 rfl (lv_at hl 0 rfl) ?_
  refine lv_iconst (v := 0) hx hb dX8_setMark_1 (by decide) ?_
  obtain ⟨Mv1, eMv1, h0⟩ := lt_out h0
  refine p_modi (ty := .int) K X 0 (by decide) (fun _ _ => rfl) (by decide +kernel) ⟨rfl, rfl⟩ eMv1 q1399 dX8_setMark_2 (fun H locs X => ?_)
  refine lv_aload_n hx hb dX8_setMark_5 rfl (lv_at hl 0 rfl) ?_
  refine lv_aload_n hx hb dX8_setMark_6 rfl (lv_at hl 0 rfl) ?_
  refine lv_iload_n hx hb dX8_setMark_7 rfl (lv_at hl 1 rfl) ?_
  obtain ⟨x2, ex2, h0⟩ := ob_out h0
  have kx2 := m_X8_isTube l D ca am Mv1 xs a1 x2 ex2 H.size
  refine w_callV0 K X wM_fstx kx2 hl.1 1 q1714 q1716 q60 q97 q1717 hv_X8_isTube ⟨⟨Nat.le_of_ble_eq_true rfl, Nat.le_of_ble_eq_true rfl⟩, rfl, rfl⟩ pl_modo rfl rfl rfl rfl (Nat.le_of_ble_eq_true rfl) dX8_setMark_8 ⟨Nat.le_of_ble_eq_true rfl, Nat.le_of_ble_eq_true rfl⟩ rfl (fun H locs X => ?_)
  refine lv_iconst (v := 1) hx hb dX8_setMark_11 (by decide) ?_
  obtain ⟨x3, ex3, h0⟩ := lt_out h0
  obtain ⟨Mv4, eMv4, h0⟩ := lt_out h0
  have kx3 := m_X8_fails l D ca am Mv1 xs (b2i x2) 1 x3.1 x3.2 ex3.symm H.size
  rw [← eMv4] at kx3
  refine w_callV0 K X wM_fstx kx3 hl.1 2 q1507 q1509 q22 q97 q1510 hv_X8_fails ⟨⟨Nat.le_of_ble_eq_true rfl, Nat.le_of_ble_eq_true rfl⟩, rfl, rfl⟩ pl_modo rfl rfl rfl rfl (Nat.le_of_ble_eq_true rfl) dX8_setMark_12 ⟨Nat.le_of_ble_eq_true rfl, Nat.le_of_ble_eq_true rfl⟩ rfl (fun H locs X => ?_)
  refine w_zeq (tgt := 20) K dX8_setMark_15 (by decide) (fun c5 => ?_) (fun c5 => ?_)
  · have h0 := if_f c5 h0
    refine lv_aload_n hx hb dX8_setMark_20 rfl (lv_at hl 0 rfl) ?_
    refine lv_iload_n hx hb dX8_setMark_21 rfl (lv_at hl 1 rfl) ?_
    obtain ⟨x6, ex6, h0⟩ := ob_out h0
    have kx6 := m_X8_isWhole l D ca am Mv4 xs a1 x6 ex6 H.size
    refine w_callV0 K X wM_fstx kx6 hl.1 1 q1655 q1657 q52 q97 q1658 hv_X8_isWhole ⟨⟨Nat.le_of_ble_eq_true rfl, Nat.le_of_ble_eq_true rfl⟩, rfl, rfl⟩ pl_modo rfl rfl rfl rfl (Nat.le_of_ble_eq_true rfl) dX8_setMark_22 ⟨Nat.le_of_ble_eq_true rfl, Nat.le_of_ble_eq_true rfl⟩ rfl (fun H locs X => ?_)
    refine w_zne (tgt := 32) K dX8_setMark_25 (by decide) (fun c7 => ?_) (fun c7 => ?_)
    · have h0 := if_t c7 h0
      refine lv_aload_n hx hb dX8_setMark_32 rfl (lv_at hl 0 rfl) ?_
      refine lv_iload_n hx hb dX8_setMark_33 rfl (lv_at hl 1 rfl) ?_
      obtain ⟨x8, ex8, h0⟩ := ob_out h0
      have kx8 := m_X8_columnOf l D ca am n Mv4 xs a1 x8 ex8 H.size
      refine w_callV0 K X wM_fstx kx8 hl.1 1 q1719 q1721 q61 q97 q1722 hv_X8_columnOf ⟨⟨Nat.le_of_ble_eq_true rfl, Nat.le_of_ble_eq_true rfl⟩, rfl, rfl⟩ pl_modo rfl rfl rfl rfl (Nat.le_of_ble_eq_true rfl) dX8_setMark_34 ⟨Nat.le_of_ble_eq_true rfl, Nat.le_of_ble_eq_true rfl⟩ rfl (fun H locs X => ?_)
      refine lv_bipush (v := 10) hx hb dX8_setMark_37 (by decide) ?_
      refine lv_idiv hx hb dX8_setMark_39 (by decide) ?_
      refine lv_ineg hx hb dX8_setMark_40 ?_
      obtain ⟨x9, ex9, h0⟩ := lt_out h0
      refine w_int ex9 ?_
      refine lv_istore_n (lv' := [(2, .int x9), (0, .ref (am 0)), (1, .int a1)]) hx hb dX8_setMark_41 rfl hl (by decide) rfl (fun ls hl => ?_)
      refine lv_iload_n hx hb dX8_setMark_42 rfl (lv_at hl 0 rfl) ?_
      refine lv_sipush (v := (-9999)) hx hb dX8_setMark_43 (by decide) ?_
      refine lv_icmp_ge (tgt := 53) hx hb dX8_setMark_46 (by decide) (fun c10 => ?_) (fun c10 => ?_)
      · have h0 := if_t c10 h0
        refine lv_aload_n hx hb dX8_setMark_53 rfl (lv_at hl 1 rfl) ?_
        refine lv_iload_n hx hb dX8_setMark_54 rfl (lv_at hl 2 rfl) ?_
        refine lv_iconst (v := 5) hx hb dX8_setMark_55 (by decide) ?_
        obtain ⟨x11, ex11, h0⟩ := lt_out h0
        have kx11 := m_X8_cell l D ca (wM am ca Mv4 ++ xs) a1 5 x11 ex11.symm H.size
        refine w_callS0 K X wM_fstx kx11 hl.1 2 q1598 q1599 q97 q1600 hs_X8_cell ⟨⟨Nat.le_of_ble_eq_true rfl, Nat.le_of_ble_eq_true rfl⟩, rfl, rfl⟩ rfl rfl (Nat.le_of_ble_eq_true rfl) dX8_setMark_56 ⟨Nat.le_of_ble_eq_true rfl, Nat.le_of_ble_eq_true rfl⟩ rfl (fun H locs X => ?_)
        refine lv_iload_n hx hb dX8_setMark_59 rfl (lv_at hl 0 rfl) ?_
        obtain ⟨x12, ex12, h0⟩ := ob_out h0
        obtain ⟨Mv13, eMv13, h0⟩ := lt_out h0
        have kx12 := m_X8_sets l D ca am n Mv4 xs x11 x9 x12.1 x12.2 ex12 H.size
        rw [← eMv13] at kx12
        refine w_callV0 K X wM_fstx kx12 hl.1 2 q1828 q1830 q69 q97 q1831 hv_X8_sets ⟨⟨Nat.le_of_ble_eq_true rfl, Nat.le_of_ble_eq_true rfl⟩, rfl, rfl⟩ pl_modo rfl rfl rfl rfl (Nat.le_of_ble_eq_true rfl) dX8_setMark_60 ⟨Nat.le_of_ble_eq_true rfl, Nat.le_of_ble_eq_true rfl⟩ rfl (fun H locs X => ?_)
        obtain ⟨x14, ex14, h0⟩ := lt_out h0
        refine w_int ex14 ?_
        refine lv_istore_n (lv' := [(3, .int x14), (2, .int x9), (0, .ref (am 0)), (1, .int a1)]) hx hb dX8_setMark_63 rfl hl (by decide) rfl (fun ls hl => ?_)
        refine lv_iload_n hx hb dX8_setMark_64 rfl (lv_at hl 1 rfl) ?_
        have h0 := Option.some.inj h0
        obtain ⟨q_0, q_1⟩ := Prod.mk.inj h0
        subst q_0
        subst q_1
        subst hQ
        exact w_iret K hr0 X wM_fstx hsz dX8_setMark_65
      · have h0 := if_f c10 h0
        refine lv_ldcw hx hb K.2.2.2.1 (K.2.2.2.2.1 _ q1856) dX8_setMark_49 ?_
        have h0 := Option.some.inj h0
        obtain ⟨q_0, q_1⟩ := Prod.mk.inj h0
        subst q_0
        subst q_1
        subst hQ
        exact w_iret K hr0 X wM_fstx hsz dX8_setMark_52
    · have h0 := if_f c7 h0
      refine lv_ldcw hx hb K.2.2.2.1 (K.2.2.2.2.1 _ q1739) dX8_setMark_28 ?_
      have h0 := Option.some.inj h0
      obtain ⟨q_0, q_1⟩ := Prod.mk.inj h0
      subst q_0
      subst q_1
      subst hQ
      exact w_iret K hr0 X wM_fstx hsz dX8_setMark_31
  · have h0 := if_t c5 h0
    refine lv_iconst (v := 0) hx hb dX8_setMark_18 (by decide) ?_
    have h0 := Option.some.inj h0
    obtain ⟨q_0, q_1⟩ := Prod.mk.inj h0
    subst q_0
    subst q_1
    subst hQ
    exact w_iret K hr0 X wM_fstx hsz dX8_setMark_19
-- X8_setCurve
def f_X8_setCurve (n : Nat) (M : RowS) (a1 : Int32) (a2 : Int32) : Option (Int32 × RowS) :=
  lt (si M 0 0 0) fun Mv1 =>
  lt (f_X8_isLeg a1) fun x2 =>
  lt (f_X8_fails Mv1 (b2i x2) 1) fun x3 =>
  lt (x3.2) fun Mv4 =>
  if x3.1 = true then
    some (0, Mv4)
  else
    lt (f_X8_in a2.toInt64 (-9999) 9999) fun x6 =>
    lt (f_X8_fails Mv4 (b2i x6) 2) fun x7 =>
    lt (x7.2) fun Mv8 =>
    if x7.1 = true then
      some (0, Mv8)
    else
      ob (f_X8_sets n Mv8 ((12 + (3 * a1)) + 2) a2) fun x10 =>
      lt (x10.2) fun Mv11 =>
      some (x10.1, Mv11)
abbrev rm_X8_setCurve : Room := { frames := 10, cells := 0, slots := 0, locals := 241 }
set_option maxRecDepth 100000 in
set_option maxHeartbeats 4000000 in
theorem m_X8_setCurve (l : Launch) (D : va_G) (ca : Nat → ClassId) (am : Nat → Nat) (n : Nat) (M : RowS) (xs : va_W) (a1 : Int32) (a2 : Int32) (res : Int32) (M' : RowS) (h0 : f_X8_setCurve n M a1 a2 = some (res, M')) (sz : Nat) : Met l yX8_setCurve (ws_ yX8_setCurve cX8_setCurve 3 (some .int)) rm_X8_setCurve (PCw D ca (wM am ca M ++ xs) sz [.ref (am 0), .int a1, .int a2]) (QMw D (wM am ca M ++ xs) (wM am ca (M') ++ xs) sz (some (.int res))) 0 0 (AL (wM am ca M ++ xs) sz) := by
  refine met_of (by decide) (Nat.le_of_ble_eq_true rfl) (fun p e s m args below meth c K hr0 X hsz ls hl => ?_)
  have K : MC D ca p s m args meth c cX8_setCurve 3 RX8 := K
  have hx := K.1
  have hb := K.2.1
  have hl : lv_has ls 3 [(0, .ref (am 0)), (1, .int a1), (2, .int a2)] := hl
  generalize hQ : MQ below _ args s 0 0 _ = Q
  unfold f_X8_setCurve at h0
  suffices Z : ∀ (H : Heap) (locs : List Loc) (X : RW D (wM am ca M ++ xs) s.heap H locs), W p l e rm_X8_setCurve s m args below meth c H locs 0 0 Q (F0 m 0 ls []) from Z _ _ X
  intro H locs X
  refine lv_aload_n hx hb dX8_setCurve_0 rfl (lv_at hl 0 rfl) ?_
  refine lv_iconst (v := 0) hx hb dX8_setCurve_1 (by decide) ?_
  obtain ⟨Mv1, eMv1, h0⟩ := lt_out h0
  refine p_modi (ty := .int) K X 0 (by decide) (fun _ _ => rfl) (by decide +kernel) ⟨rfl, rfl⟩ eMv1 q1399 dX8_setCurve_2 (fun H locs X => ?_)
  refine lv_aload_n hx hb dX8_setCurve_5 rfl (lv_at hl 0 rfl) ?_
  refine lv_iload_n hx hb dX8_setCurve_6 rfl (lv_at hl 1 rfl) ?_
  obtain ⟨x2, ex2, h0⟩ := lt_out h0
  have kx2 := m_X8_isLeg l D ca (wM am ca Mv1 ++ xs) a1 x2 ex2.symm H.size
  refine w_callS0 K X wM_fstx kx2 hl.1 1 q1697 q1698 q97 q1699 hs_X8_isLeg ⟨⟨Nat.le_of_ble_eq_true rfl, Nat.le_of_ble_eq_true rfl⟩, rfl, rfl⟩ rfl rfl (Nat.le_of_ble_eq_true rfl) dX8_setCurve_7 ⟨Nat.le_of_ble_eq_true rfl, Nat.le_of_ble_eq_true rfl⟩ rfl (fun H locs X => ?_)
  refine lv_iconst (v := 1) hx hb dX8_setCurve_10 (by decide) ?_
  obtain ⟨x3, ex3, h0⟩ := lt_out h0
  obtain ⟨Mv4, eMv4, h0⟩ := lt_out h0
  have kx3 := m_X8_fails l D ca am Mv1 xs (b2i x2) 1 x3.1 x3.2 ex3.symm H.size
  rw [← eMv4] at kx3
  refine w_callV0 K X wM_fstx kx3 hl.1 2 q1507 q1509 q22 q97 q1510 hv_X8_fails ⟨⟨Nat.le_of_ble_eq_true rfl, Nat.le_of_ble_eq_true rfl⟩, rfl, rfl⟩ pl_modo rfl rfl rfl rfl (Nat.le_of_ble_eq_true rfl) dX8_setCurve_11 ⟨Nat.le_of_ble_eq_true rfl, Nat.le_of_ble_eq_true rfl⟩ rfl (fun H locs X => ?_)
  refine w_zne (tgt := 36) K dX8_setCurve_14 (by decide) (fun c5 => ?_) (fun c5 => ?_)
  · have h0 := if_t c5 h0
    refine lv_iconst (v := 0) hx hb dX8_setCurve_36 (by decide) ?_
    refine lv_goto (tgt := 53) hx hb dX8_setCurve_37 (by decide) ?_
    have h0 := Option.some.inj h0
    obtain ⟨q_0, q_1⟩ := Prod.mk.inj h0
    subst q_0
    subst q_1
    subst hQ
    exact w_iret K hr0 X wM_fstx hsz dX8_setCurve_53
  · have h0 := if_f c5 h0
    refine lv_aload_n hx hb dX8_setCurve_17 rfl (lv_at hl 0 rfl) ?_
    refine lv_iload_n hx hb dX8_setCurve_18 rfl (lv_at hl 2 rfl) ?_
    refine lv_i2l hx hb dX8_setCurve_19 rfl ?_
    refine lv_ldc2 hx hb K.2.2.2.1 (K.2.2.2.2.1 _ q1803) dX8_setCurve_20 ?_
    refine lv_ldc2 hx hb K.2.2.2.1 (K.2.2.2.2.1 _ q1804) dX8_setCurve_23 ?_
    obtain ⟨x6, ex6, h0⟩ := lt_out h0
    have kx6 := m_X8_in l D ca (wM am ca Mv4 ++ xs) a2.toInt64 (-9999) 9999 x6 ex6.symm H.size
    refine w_callS0 K X wM_fstx kx6 hl.1 3 q1504 q1505 q97 q1506 hs_X8_in ⟨⟨Nat.le_of_ble_eq_true rfl, Nat.le_of_ble_eq_true rfl⟩, rfl, rfl⟩ rfl rfl (Nat.le_of_ble_eq_true rfl) dX8_setCurve_26 ⟨Nat.le_of_ble_eq_true rfl, Nat.le_of_ble_eq_true rfl⟩ rfl (fun H locs X => ?_)
    refine lv_iconst (v := 2) hx hb dX8_setCurve_29 (by decide) ?_
    obtain ⟨x7, ex7, h0⟩ := lt_out h0
    obtain ⟨Mv8, eMv8, h0⟩ := lt_out h0
    have kx7 := m_X8_fails l D ca am Mv4 xs (b2i x6) 2 x7.1 x7.2 ex7.symm H.size
    rw [← eMv8] at kx7
    refine w_callV0 K X wM_fstx kx7 hl.1 2 q1507 q1509 q22 q97 q1510 hv_X8_fails ⟨⟨Nat.le_of_ble_eq_true rfl, Nat.le_of_ble_eq_true rfl⟩, rfl, rfl⟩ pl_modo rfl rfl rfl rfl (Nat.le_of_ble_eq_true rfl) dX8_setCurve_30 ⟨Nat.le_of_ble_eq_true rfl, Nat.le_of_ble_eq_true rfl⟩ rfl (fun H locs X => ?_)
    refine w_zeq (tgt := 40) K dX8_setCurve_33 (by decide) (fun c9 => ?_) (fun c9 => ?_)
    · have h0 := if_f c9 h0
      refine lv_aload_n hx hb dX8_setCurve_40 rfl (lv_at hl 0 rfl) ?_
      refine lv_bipush (v := 12) hx hb dX8_setCurve_41 (by decide) ?_
      refine lv_iconst (v := 3) hx hb dX8_setCurve_43 (by decide) ?_
      refine lv_iload_n hx hb dX8_setCurve_44 rfl (lv_at hl 1 rfl) ?_
      refine lv_imul hx hb dX8_setCurve_45 ?_
      refine lv_iadd hx hb dX8_setCurve_46 ?_
      refine lv_iconst (v := 2) hx hb dX8_setCurve_47 (by decide) ?_
      refine lv_iadd hx hb dX8_setCurve_48 ?_
      refine lv_iload_n hx hb dX8_setCurve_49 rfl (lv_at hl 2 rfl) ?_
      obtain ⟨x10, ex10, h0⟩ := ob_out h0
      obtain ⟨Mv11, eMv11, h0⟩ := lt_out h0
      have kx10 := m_X8_sets l D ca am n Mv8 xs ((12 + (3 * a1)) + 2) a2 x10.1 x10.2 ex10 H.size
      rw [← eMv11] at kx10
      refine w_callV0 K X wM_fstx kx10 hl.1 2 q1828 q1830 q69 q97 q1831 hv_X8_sets ⟨⟨Nat.le_of_ble_eq_true rfl, Nat.le_of_ble_eq_true rfl⟩, rfl, rfl⟩ pl_modo rfl rfl rfl rfl (Nat.le_of_ble_eq_true rfl) dX8_setCurve_50 ⟨Nat.le_of_ble_eq_true rfl, Nat.le_of_ble_eq_true rfl⟩ rfl (fun H locs X => ?_)
      have h0 := Option.some.inj h0
      obtain ⟨q_0, q_1⟩ := Prod.mk.inj h0
      subst q_0
      subst q_1
      subst hQ
      exact w_iret K hr0 X wM_fstx hsz dX8_setCurve_53
    · have h0 := if_t c9 h0
      refine lv_iconst (v := 0) hx hb dX8_setCurve_36 (by decide) ?_
      refine lv_goto (tgt := 53) hx hb dX8_setCurve_37 (by decide) ?_
      have h0 := Option.some.inj h0
      obtain ⟨q_0, q_1⟩ := Prod.mk.inj h0
      subst q_0
      subst q_1
      subst hQ
      exact w_iret K hr0 X wM_fstx hsz dX8_setCurve_53
-- X8_mend
def f_X8_mend (n : Nat) (M : RowS) (a1 : Int32) : Option (Int32 × RowS) :=
  lt (si M 0 0 0) fun Mv1 =>
  ob (f_X8_isTube Mv1 a1) fun x2 =>
  lt (f_X8_fails Mv1 (b2i x2) 1) fun x3 =>
  lt (x3.2) fun Mv4 =>
  if x3.1 = true then
    some (0, Mv4)
  else
    ob (f_X8_isWhole Mv4 a1) fun x6 =>
    if x6 = true then
      some ((-2), Mv4)
    else
      lt (f_X8_cell a1 6) fun x8 =>
      ob (f_X8_sets n Mv4 x8 0) fun x9 =>
      lt (x9.2) fun Mv10 =>
      lt (x9.1) fun x11 =>
      ob (f_X8_of Mv10 a1 6) fun x12 =>
      some (x12, Mv10)
abbrev rm_X8_mend : Room := { frames := 10, cells := 0, slots := 0, locals := 241 }
set_option maxRecDepth 100000 in
set_option maxHeartbeats 4000000 in
theorem m_X8_mend (l : Launch) (D : va_G) (ca : Nat → ClassId) (am : Nat → Nat) (n : Nat) (M : RowS) (xs : va_W) (a1 : Int32) (res : Int32) (M' : RowS) (h0 : f_X8_mend n M a1 = some (res, M')) (sz : Nat) : Met l yX8_mend (ws_ yX8_mend cX8_mend 3 (some .int)) rm_X8_mend (PCw D ca (wM am ca M ++ xs) sz [.ref (am 0), .int a1]) (QMw D (wM am ca M ++ xs) (wM am ca (M') ++ xs) sz (some (.int res))) 0 0 (AL (wM am ca M ++ xs) sz) := by
  refine met_of (by decide) (Nat.le_of_ble_eq_true rfl) (fun p e s m args below meth c K hr0 X hsz ls hl => ?_)
  have K : MC D ca p s m args meth c cX8_mend 3 RX8 := K
  have hx := K.1
  have hb := K.2.1
  have hl : lv_has ls 3 [(0, .ref (am 0)), (1, .int a1)] := hl
  generalize hQ : MQ below _ args s 0 0 _ = Q
  unfold f_X8_mend at h0
  suffices Z : ∀ (H : Heap) (locs : List Loc) (X : RW D (wM am ca M ++ xs) s.heap H locs), W p l e rm_X8_mend s m args below meth c H locs 0 0 Q (F0 m 0 ls []) from Z _ _ X
  intro H locs X
  refine lv_aload_n hx hb dX8_mend_0 rfl (lv_at hl 0 rfl) ?_
  refine lv_iconst (v := 0) hx hb dX8_mend_1 (by decide) ?_
  obtain ⟨Mv1, eMv1, h0⟩ := lt_out h0
  refine p_modi (ty := .int) K X 0 (by decide) (fun _ _ => rfl) (by decide +kernel) ⟨rfl, rfl⟩ eMv1 q1399 dX8_mend_2 (fun H locs X => ?_)
  refine lv_aload_n hx hb dX8_mend_5 rfl (lv_at hl 0 rfl) ?_
  refine lv_aload_n hx hb dX8_mend_6 rfl (lv_at hl 0 rfl) ?_
  refine lv_iload_n hx hb dX8_mend_7 rfl (lv_at hl 1 rfl) ?_
  obtain ⟨x2, ex2, h0⟩ := ob_out h0
  have kx2 := m_X8_isTube l D ca am Mv1 xs a1 x2 ex2 H.size
  refine w_callV0 K X wM_fstx kx2 hl.1 1 q1714 q1716 q60 q97 q1717 hv_X8_isTube ⟨⟨Nat.le_of_ble_eq_true rfl, Nat.le_of_ble_eq_true rfl⟩, rfl, rfl⟩ pl_modo rfl rfl rfl rfl (Nat.le_of_ble_eq_true rfl) dX8_mend_8 ⟨Nat.le_of_ble_eq_true rfl, Nat.le_of_ble_eq_true rfl⟩ rfl (fun H locs X => ?_)
  refine lv_iconst (v := 1) hx hb dX8_mend_11 (by decide) ?_
  obtain ⟨x3, ex3, h0⟩ := lt_out h0
  obtain ⟨Mv4, eMv4, h0⟩ := lt_out h0
  have kx3 := m_X8_fails l D ca am Mv1 xs (b2i x2) 1 x3.1 x3.2 ex3.symm H.size
  rw [← eMv4] at kx3
  refine w_callV0 K X wM_fstx kx3 hl.1 2 q1507 q1509 q22 q97 q1510 hv_X8_fails ⟨⟨Nat.le_of_ble_eq_true rfl, Nat.le_of_ble_eq_true rfl⟩, rfl, rfl⟩ pl_modo rfl rfl rfl rfl (Nat.le_of_ble_eq_true rfl) dX8_mend_12 ⟨Nat.le_of_ble_eq_true rfl, Nat.le_of_ble_eq_true rfl⟩ rfl (fun H locs X => ?_)
  refine w_zeq (tgt := 20) K dX8_mend_15 (by decide) (fun c5 => ?_) (fun c5 => ?_)
  · have h0 := if_f c5 h0
    refine lv_aload_n hx hb dX8_mend_20 rfl (lv_at hl 0 rfl) ?_
    refine lv_iload_n hx hb dX8_mend_21 rfl (lv_at hl 1 rfl) ?_
    obtain ⟨x6, ex6, h0⟩ := ob_out h0
    have kx6 := m_X8_isWhole l D ca am Mv4 xs a1 x6 ex6 H.size
    refine w_callV0 K X wM_fstx kx6 hl.1 1 q1655 q1657 q52 q97 q1658 hv_X8_isWhole ⟨⟨Nat.le_of_ble_eq_true rfl, Nat.le_of_ble_eq_true rfl⟩, rfl, rfl⟩ pl_modo rfl rfl rfl rfl (Nat.le_of_ble_eq_true rfl) dX8_mend_22 ⟨Nat.le_of_ble_eq_true rfl, Nat.le_of_ble_eq_true rfl⟩ rfl (fun H locs X => ?_)
    refine w_zeq (tgt := 31) K dX8_mend_25 (by decide) (fun c7 => ?_) (fun c7 => ?_)
    · have h0 := if_f c7 h0
      refine lv_aload_n hx hb dX8_mend_31 rfl (lv_at hl 0 rfl) ?_
      refine lv_iload_n hx hb dX8_mend_32 rfl (lv_at hl 1 rfl) ?_
      refine lv_bipush (v := 6) hx hb dX8_mend_33 (by decide) ?_
      obtain ⟨x8, ex8, h0⟩ := lt_out h0
      have kx8 := m_X8_cell l D ca (wM am ca Mv4 ++ xs) a1 6 x8 ex8.symm H.size
      refine w_callS0 K X wM_fstx kx8 hl.1 2 q1598 q1599 q97 q1600 hs_X8_cell ⟨⟨Nat.le_of_ble_eq_true rfl, Nat.le_of_ble_eq_true rfl⟩, rfl, rfl⟩ rfl rfl (Nat.le_of_ble_eq_true rfl) dX8_mend_35 ⟨Nat.le_of_ble_eq_true rfl, Nat.le_of_ble_eq_true rfl⟩ rfl (fun H locs X => ?_)
      refine lv_iconst (v := 0) hx hb dX8_mend_38 (by decide) ?_
      obtain ⟨x9, ex9, h0⟩ := ob_out h0
      obtain ⟨Mv10, eMv10, h0⟩ := lt_out h0
      have kx9 := m_X8_sets l D ca am n Mv4 xs x8 0 x9.1 x9.2 ex9 H.size
      rw [← eMv10] at kx9
      refine w_callV0 K X wM_fstx kx9 hl.1 2 q1828 q1830 q69 q97 q1831 hv_X8_sets ⟨⟨Nat.le_of_ble_eq_true rfl, Nat.le_of_ble_eq_true rfl⟩, rfl, rfl⟩ pl_modo rfl rfl rfl rfl (Nat.le_of_ble_eq_true rfl) dX8_mend_39 ⟨Nat.le_of_ble_eq_true rfl, Nat.le_of_ble_eq_true rfl⟩ rfl (fun H locs X => ?_)
      obtain ⟨x11, ex11, h0⟩ := lt_out h0
      refine w_int ex11 ?_
      refine lv_istore_n (lv' := [(2, .int x11), (0, .ref (am 0)), (1, .int a1)]) hx hb dX8_mend_42 rfl hl (by decide) rfl (fun ls hl => ?_)
      refine lv_aload_n hx hb dX8_mend_43 rfl (lv_at hl 1 rfl) ?_
      refine lv_iload_n hx hb dX8_mend_44 rfl (lv_at hl 2 rfl) ?_
      refine lv_bipush (v := 6) hx hb dX8_mend_45 (by decide) ?_
      obtain ⟨x12, ex12, h0⟩ := ob_out h0
      have kx12 := m_X8_of l D ca am Mv10 xs a1 6 x12 ex12 H.size
      refine w_callV0 K X wM_fstx kx12 hl.1 2 q1631 q1633 q47 q97 q1634 hv_X8_of ⟨⟨Nat.le_of_ble_eq_true rfl, Nat.le_of_ble_eq_true rfl⟩, rfl, rfl⟩ pl_modo rfl rfl rfl rfl (Nat.le_of_ble_eq_true rfl) dX8_mend_47 ⟨Nat.le_of_ble_eq_true rfl, Nat.le_of_ble_eq_true rfl⟩ rfl (fun H locs X => ?_)
      have h0 := Option.some.inj h0
      obtain ⟨q_0, q_1⟩ := Prod.mk.inj h0
      subst q_0
      subst q_1
      subst hQ
      exact w_iret K hr0 X wM_fstx hsz dX8_mend_50
    · have h0 := if_t c7 h0
      refine lv_bipush (v := (-2)) hx hb dX8_mend_28 (by decide) ?_
      have h0 := Option.some.inj h0
      obtain ⟨q_0, q_1⟩ := Prod.mk.inj h0
      subst q_0
      subst q_1
      subst hQ
      exact w_iret K hr0 X wM_fstx hsz dX8_mend_30
  · have h0 := if_t c5 h0
    refine lv_iconst (v := 0) hx hb dX8_mend_18 (by decide) ?_
    have h0 := Option.some.inj h0
    obtain ⟨q_0, q_1⟩ := Prod.mk.inj h0
    subst q_0
    subst q_1
    subst hQ
    exact w_iret K hr0 X wM_fstx hsz dX8_mend_19
-- X8_refill
def f_X8_refill (n : Nat) (M : RowS) (a1 : Int32) (a2 : Int32) : Option (Int32 × RowS) :=
  lt (si M 0 0 0) fun Mv1 =>
  lt (f_X8_isLeg a1) fun x2 =>
  lt (f_X8_fails Mv1 (b2i x2) 1) fun x3 =>
  lt (x3.2) fun Mv4 =>
  if x3.1 = true then
    some (0, Mv4)
  else
    lt (f_X8_in a2.toInt64 1 99999999) fun x6 =>
    lt (f_X8_fails Mv4 (b2i x6) 2) fun x7 =>
    lt (x7.2) fun Mv8 =>
    if x7.1 = true then
      some (0, Mv8)
    else
      if 0 ≤ (4 + a1).toInt ∧ (4 + a1).toInt < 6 then
        if ((Mv8.2 5 (4 + a1).toNatClampNeg) + a2.toInt64) ≤ 2000000000 then
          ob (f_X8_keeps n Mv8) fun x12 =>
          lt (x12) fun Mv13 =>
          if 0 ≤ (0 + a1).toInt ∧ (0 + a1).toInt < 6 then
            if 0 ≤ (0 + a1).toInt ∧ (0 + a1).toInt < 6 then
              lt (sl Mv13 5 (0 + a1).toNatClampNeg ((Mv13.2 5 (0 + a1).toNatClampNeg) + a2.toInt64)) fun Mv16 =>
              if 0 ≤ (4 + a1).toInt ∧ (4 + a1).toInt < 6 then
                if 0 ≤ (4 + a1).toInt ∧ (4 + a1).toInt < 6 then
                  lt (sl Mv16 5 (4 + a1).toNatClampNeg ((Mv16.2 5 (4 + a1).toNatClampNeg) + a2.toInt64)) fun Mv19 =>
                  ob (f_X8_settles n Mv19) fun x20 =>
                  lt (x20.2) fun Mv21 =>
                  some (x20.1, Mv21)
                else none
              else none
            else none
          else none
        else
          some ((-2), Mv8)
      else none
abbrev rm_X8_refill : Room := { frames := 9, cells := 0, slots := 0, locals := 219 }
set_option maxRecDepth 100000 in
set_option maxHeartbeats 4000000 in
theorem m_X8_refill (l : Launch) (D : va_G) (ca : Nat → ClassId) (am : Nat → Nat) (n : Nat) (M : RowS) (xs : va_W) (a1 : Int32) (a2 : Int32) (res : Int32) (M' : RowS) (h0 : f_X8_refill n M a1 a2 = some (res, M')) (sz : Nat) : Met l yX8_refill (ws_ yX8_refill cX8_refill 3 (some .int)) rm_X8_refill (PCw D ca (wM am ca M ++ xs) sz [.ref (am 0), .int a1, .int a2]) (QMw D (wM am ca M ++ xs) (wM am ca (M') ++ xs) sz (some (.int res))) 0 0 (AL (wM am ca M ++ xs) sz) := by
  refine met_of (by decide) (Nat.le_of_ble_eq_true rfl) (fun p e s m args below meth c K hr0 X hsz ls hl => ?_)
  have K : MC D ca p s m args meth c cX8_refill 3 RX8 := K
  have hx := K.1
  have hb := K.2.1
  have hl : lv_has ls 3 [(0, .ref (am 0)), (1, .int a1), (2, .int a2)] := hl
  generalize hQ : MQ below _ args s 0 0 _ = Q
  unfold f_X8_refill at h0
  suffices Z : ∀ (H : Heap) (locs : List Loc) (X : RW D (wM am ca M ++ xs) s.heap H locs), W p l e rm_X8_refill s m args below meth c H locs 0 0 Q (F0 m 0 ls []) from Z _ _ X
  intro H locs X
  refine lv_aload_n hx hb dX8_refill_0 rfl (lv_at hl 0 rfl) ?_
  refine lv_iconst (v := 0) hx hb dX8_refill_1 (by decide) ?_
  obtain ⟨Mv1, eMv1, h0⟩ := lt_out h0
  refine p_modi (ty := .int) K X 0 (by decide) (fun _ _ => rfl) (by decide +kernel) ⟨rfl, rfl⟩ eMv1 q1399 dX8_refill_2 (fun H locs X => ?_)
  refine lv_aload_n hx hb dX8_refill_5 rfl (lv_at hl 0 rfl) ?_
  refine lv_iload_n hx hb dX8_refill_6 rfl (lv_at hl 1 rfl) ?_
  obtain ⟨x2, ex2, h0⟩ := lt_out h0
  have kx2 := m_X8_isLeg l D ca (wM am ca Mv1 ++ xs) a1 x2 ex2.symm H.size
  refine w_callS0 K X wM_fstx kx2 hl.1 1 q1697 q1698 q97 q1699 hs_X8_isLeg ⟨⟨Nat.le_of_ble_eq_true rfl, Nat.le_of_ble_eq_true rfl⟩, rfl, rfl⟩ rfl rfl (Nat.le_of_ble_eq_true rfl) dX8_refill_7 ⟨Nat.le_of_ble_eq_true rfl, Nat.le_of_ble_eq_true rfl⟩ rfl (fun H locs X => ?_)
  refine lv_iconst (v := 1) hx hb dX8_refill_10 (by decide) ?_
  obtain ⟨x3, ex3, h0⟩ := lt_out h0
  obtain ⟨Mv4, eMv4, h0⟩ := lt_out h0
  have kx3 := m_X8_fails l D ca am Mv1 xs (b2i x2) 1 x3.1 x3.2 ex3.symm H.size
  rw [← eMv4] at kx3
  refine w_callV0 K X wM_fstx kx3 hl.1 2 q1507 q1509 q22 q97 q1510 hv_X8_fails ⟨⟨Nat.le_of_ble_eq_true rfl, Nat.le_of_ble_eq_true rfl⟩, rfl, rfl⟩ pl_modo rfl rfl rfl rfl (Nat.le_of_ble_eq_true rfl) dX8_refill_11 ⟨Nat.le_of_ble_eq_true rfl, Nat.le_of_ble_eq_true rfl⟩ rfl (fun H locs X => ?_)
  refine w_zne (tgt := 34) K dX8_refill_14 (by decide) (fun c5 => ?_) (fun c5 => ?_)
  · have h0 := if_t c5 h0
    refine lv_iconst (v := 0) hx hb dX8_refill_34 (by decide) ?_
    have h0 := Option.some.inj h0
    obtain ⟨q_0, q_1⟩ := Prod.mk.inj h0
    subst q_0
    subst q_1
    subst hQ
    exact w_iret K hr0 X wM_fstx hsz dX8_refill_35
  · have h0 := if_f c5 h0
    refine lv_aload_n hx hb dX8_refill_17 rfl (lv_at hl 0 rfl) ?_
    refine lv_iload_n hx hb dX8_refill_18 rfl (lv_at hl 2 rfl) ?_
    refine lv_i2l hx hb dX8_refill_19 rfl ?_
    refine lv_lconst (v := 1) hx hb dX8_refill_20 (by decide) ?_
    refine lv_ldc2 hx hb K.2.2.2.1 (K.2.2.2.2.1 _ q1869) dX8_refill_21 ?_
    obtain ⟨x6, ex6, h0⟩ := lt_out h0
    have kx6 := m_X8_in l D ca (wM am ca Mv4 ++ xs) a2.toInt64 1 99999999 x6 ex6.symm H.size
    refine w_callS0 K X wM_fstx kx6 hl.1 3 q1504 q1505 q97 q1506 hs_X8_in ⟨⟨Nat.le_of_ble_eq_true rfl, Nat.le_of_ble_eq_true rfl⟩, rfl, rfl⟩ rfl rfl (Nat.le_of_ble_eq_true rfl) dX8_refill_24 ⟨Nat.le_of_ble_eq_true rfl, Nat.le_of_ble_eq_true rfl⟩ rfl (fun H locs X => ?_)
    refine lv_iconst (v := 2) hx hb dX8_refill_27 (by decide) ?_
    obtain ⟨x7, ex7, h0⟩ := lt_out h0
    obtain ⟨Mv8, eMv8, h0⟩ := lt_out h0
    have kx7 := m_X8_fails l D ca am Mv4 xs (b2i x6) 2 x7.1 x7.2 ex7.symm H.size
    rw [← eMv8] at kx7
    refine w_callV0 K X wM_fstx kx7 hl.1 2 q1507 q1509 q22 q97 q1510 hv_X8_fails ⟨⟨Nat.le_of_ble_eq_true rfl, Nat.le_of_ble_eq_true rfl⟩, rfl, rfl⟩ pl_modo rfl rfl rfl rfl (Nat.le_of_ble_eq_true rfl) dX8_refill_28 ⟨Nat.le_of_ble_eq_true rfl, Nat.le_of_ble_eq_true rfl⟩ rfl (fun H locs X => ?_)
    refine w_zeq (tgt := 36) K dX8_refill_31 (by decide) (fun c9 => ?_) (fun c9 => ?_)
    · have h0 := if_f c9 h0
      refine lv_aload_n hx hb dX8_refill_36 rfl (lv_at hl 0 rfl) ?_
      refine g_modr K X 5 (by decide) (fun _ _ => rfl) q1404 dX8_refill_37 ?_
      refine lv_iconst (v := 4) hx hb dX8_refill_40 (by decide) ?_
      refine lv_iload_n hx hb dX8_refill_41 rfl (lv_at hl 1 rfl) ?_
      refine lv_iadd hx hb dX8_refill_42 ?_
      obtain ⟨c10, h0⟩ := if_o h0
      refine a_modl K X 5 5 6 rfl rfl (inb_vp c10) dX8_refill_43 ?_
      refine lv_iload_n hx hb dX8_refill_44 rfl (lv_at hl 2 rfl) ?_
      refine lv_i2l hx hb dX8_refill_45 rfl ?_
      refine lv_ladd hx hb dX8_refill_46 ?_
      refine lv_ldc2 hx hb K.2.2.2.1 (K.2.2.2.2.1 _ q1870) dX8_refill_47 ?_
      refine w_ble (tgt := 57) K dX8_refill_50 dX8_refill_51 (by decide) (fun c11 => ?_) (fun c11 => ?_)
      · have h0 := if_t c11 h0
        refine lv_aload_n hx hb dX8_refill_57 rfl (lv_at hl 0 rfl) ?_
        obtain ⟨x12, ex12, h0⟩ := ob_out h0
        obtain ⟨Mv13, eMv13, h0⟩ := lt_out h0
        have kx12 := m_X8_keeps l D ca am n Mv8 xs x12 ex12 H.size
        rw [← eMv13] at kx12
        refine w_callV0 K X wM_fstx kx12 hl.1 0 q1832 q1834 q70 q97 q1835 hv_X8_keeps ⟨⟨Nat.le_of_ble_eq_true rfl, Nat.le_of_ble_eq_true rfl⟩, rfl, rfl⟩ pl_modo rfl rfl rfl rfl (Nat.le_of_ble_eq_true rfl) dX8_refill_58 ⟨Nat.le_of_ble_eq_true rfl, Nat.le_of_ble_eq_true rfl⟩ rfl (fun H locs X => ?_)
        refine lv_aload_n hx hb dX8_refill_61 rfl (lv_at hl 0 rfl) ?_
        refine g_modr K X 5 (by decide) (fun _ _ => rfl) q1404 dX8_refill_62 ?_
        refine lv_iconst (v := 0) hx hb dX8_refill_65 (by decide) ?_
        refine lv_iload_n hx hb dX8_refill_66 rfl (lv_at hl 1 rfl) ?_
        refine lv_iadd hx hb dX8_refill_67 ?_
        refine lv_dup2_11 hx hb dX8_refill_68 rfl rfl ?_
        obtain ⟨c14, h0⟩ := if_o h0
        refine a_modl K X 5 5 6 rfl rfl (inb_vp c14) dX8_refill_69 ?_
        refine lv_iload_n hx hb dX8_refill_70 rfl (lv_at hl 2 rfl) ?_
        refine lv_i2l hx hb dX8_refill_71 rfl ?_
        refine lv_ladd hx hb dX8_refill_72 ?_
        obtain ⟨c15, h0⟩ := if_o h0
        obtain ⟨Mv16, eMv16, h0⟩ := lt_out h0
        refine s_modl K X 5 5 6 rfl (fun _ => rfl) (inb_vp c15) eMv16 dX8_refill_73 (fun H locs X => ?_)
        refine lv_aload_n hx hb dX8_refill_74 rfl (lv_at hl 0 rfl) ?_
        refine g_modr K X 5 (by decide) (fun _ _ => rfl) q1404 dX8_refill_75 ?_
        refine lv_iconst (v := 4) hx hb dX8_refill_78 (by decide) ?_
        refine lv_iload_n hx hb dX8_refill_79 rfl (lv_at hl 1 rfl) ?_
        refine lv_iadd hx hb dX8_refill_80 ?_
        refine lv_dup2_11 hx hb dX8_refill_81 rfl rfl ?_
        obtain ⟨c17, h0⟩ := if_o h0
        refine a_modl K X 5 5 6 rfl rfl (inb_vp c17) dX8_refill_82 ?_
        refine lv_iload_n hx hb dX8_refill_83 rfl (lv_at hl 2 rfl) ?_
        refine lv_i2l hx hb dX8_refill_84 rfl ?_
        refine lv_ladd hx hb dX8_refill_85 ?_
        obtain ⟨c18, h0⟩ := if_o h0
        obtain ⟨Mv19, eMv19, h0⟩ := lt_out h0
        refine s_modl K X 5 5 6 rfl (fun _ => rfl) (inb_vp c18) eMv19 dX8_refill_86 (fun H locs X => ?_)
        refine lv_aload_n hx hb dX8_refill_87 rfl (lv_at hl 0 rfl) ?_
        obtain ⟨x20, ex20, h0⟩ := ob_out h0
        obtain ⟨Mv21, eMv21, h0⟩ := lt_out h0
        have kx20 := m_X8_settles l D ca am n Mv19 xs x20.1 x20.2 ex20 H.size
        rw [← eMv21] at kx20
        refine w_callV0 K X wM_fstx kx20 hl.1 0 q1615 q1617 q43 q97 q1618 hv_X8_settles ⟨⟨Nat.le_of_ble_eq_true rfl, Nat.le_of_ble_eq_true rfl⟩, rfl, rfl⟩ pl_modo rfl rfl rfl rfl (Nat.le_of_ble_eq_true rfl) dX8_refill_88 ⟨Nat.le_of_ble_eq_true rfl, Nat.le_of_ble_eq_true rfl⟩ rfl (fun H locs X => ?_)
        have h0 := Option.some.inj h0
        obtain ⟨q_0, q_1⟩ := Prod.mk.inj h0
        subst q_0
        subst q_1
        subst hQ
        exact w_iret K hr0 X wM_fstx hsz dX8_refill_91
      · have h0 := if_f c11 h0
        refine lv_bipush (v := (-2)) hx hb dX8_refill_54 (by decide) ?_
        have h0 := Option.some.inj h0
        obtain ⟨q_0, q_1⟩ := Prod.mk.inj h0
        subst q_0
        subst q_1
        subst hQ
        exact w_iret K hr0 X wM_fstx hsz dX8_refill_56
    · have h0 := if_t c9 h0
      refine lv_iconst (v := 0) hx hb dX8_refill_34 (by decide) ?_
      have h0 := Option.some.inj h0
      obtain ⟨q_0, q_1⟩ := Prod.mk.inj h0
      subst q_0
      subst q_1
      subst hQ
      exact w_iret K hr0 X wM_fstx hsz dX8_refill_35
-- X8_addTube
def b_X8_addTube_74 (n : Nat) (a1 : Int32) (a2 : Int32) (a3 : Int32) (a4 : Int32) (a5 : Int32) (y74_s1 : Int32) (M_74 : RowS) : Option (Int32 × RowS) :=
  lt (f_X8_fails M_74 y74_s1 2) fun x9 =>
  lt (x9.2) fun Mv10 =>
  if x9.1 = true then
    some (0, Mv10)
  else
    if 0 ≤ (2 : Int32).toInt ∧ (2 : Int32).toInt < 102 then
      lt (Mv10.1 1 (2 : Int32).toNatClampNeg) fun x13 =>
      if x13 = 12 then
        some ((-2), Mv10)
      else
        ob (f_X8_keeps n Mv10) fun x15 =>
        lt (x15) fun Mv16 =>
        ob (f_X8_laysTube Mv16 x13 a1 a2 a3 a4 a5) fun x17 =>
        lt (x17) fun Mv18 =>
        if 0 ≤ (2 : Int32).toInt ∧ (2 : Int32).toInt < 102 then
          lt (si Mv18 1 (2 : Int32).toNatClampNeg (x13 + 1)) fun Mv20 =>
          ob (f_X8_settles n Mv20) fun x21 =>
          lt (x21.2) fun Mv22 =>
          lt (x21.1) fun x23 =>
          some (x13, Mv22)
        else none
    else none
def b_X8_addTube_73 (n : Nat) (a1 : Int32) (a2 : Int32) (a3 : Int32) (a4 : Int32) (a5 : Int32) (M_73 : RowS) : Option (Int32 × RowS) :=
  b_X8_addTube_74 n a1 a2 a3 a4 a5 0 M_73
def b_X8_addTube_26 (n : Nat) (a1 : Int32) (a2 : Int32) (a3 : Int32) (a4 : Int32) (a5 : Int32) (y26_s1 : Int32) (M_26 : RowS) : Option (Int32 × RowS) :=
  lt (f_X8_fails M_26 y26_s1 1) fun x4 =>
  lt (x4.2) fun Mv5 =>
  if x4.1 = true then
    some (0, Mv5)
  else
    lt (f_X8_in a3.toInt64 1 20) fun x7 =>
    if x7 = true then
      lt (f_X8_isSlant a4) fun x24 =>
      if x24 = true then
        lt (f_X8_in a5.toInt64 10 2000) fun x26 =>
        if x26 = true then
          b_X8_addTube_74 n a1 a2 a3 a4 a5 1 Mv5
        else
          b_X8_addTube_73 n a1 a2 a3 a4 a5 Mv5
      else
        b_X8_addTube_73 n a1 a2 a3 a4 a5 Mv5
    else
      b_X8_addTube_73 n a1 a2 a3 a4 a5 Mv5
def b_X8_addTube_25 (n : Nat) (a1 : Int32) (a2 : Int32) (a3 : Int32) (a4 : Int32) (a5 : Int32) (M_25 : RowS) : Option (Int32 × RowS) :=
  b_X8_addTube_26 n a1 a2 a3 a4 a5 0 M_25
def f_X8_addTube (n : Nat) (M : RowS) (a1 : Int32) (a2 : Int32) (a3 : Int32) (a4 : Int32) (a5 : Int32) : Option (Int32 × RowS) :=
  lt (si M 0 0 0) fun Mv1 =>
  lt (f_X8_isLeg a1) fun x2 =>
  if x2 = true then
    ob (f_X8_isPoint Mv1 a2) fun x28 =>
    if x28 = true then
      b_X8_addTube_26 n a1 a2 a3 a4 a5 1 Mv1
    else
      b_X8_addTube_25 n a1 a2 a3 a4 a5 Mv1
  else
    b_X8_addTube_25 n a1 a2 a3 a4 a5 Mv1
abbrev rm_X8_addTube : Room := { frames := 9, cells := 0, slots := 0, locals := 219 }
set_option maxRecDepth 100000 in
set_option maxHeartbeats 4000000 in
theorem m_X8_addTube (l : Launch) (D : va_G) (ca : Nat → ClassId) (am : Nat → Nat) (n : Nat) (M : RowS) (xs : va_W) (a1 : Int32) (a2 : Int32) (a3 : Int32) (a4 : Int32) (a5 : Int32) (res : Int32) (M' : RowS) (h0 : f_X8_addTube n M a1 a2 a3 a4 a5 = some (res, M')) (sz : Nat) : Met l yX8_addTube (ws_ yX8_addTube cX8_addTube 8 (some .int)) rm_X8_addTube (PCw D ca (wM am ca M ++ xs) sz [.ref (am 0), .int a1, .int a2, .int a3, .int a4, .int a5]) (QMw D (wM am ca M ++ xs) (wM am ca (M') ++ xs) sz (some (.int res))) 0 0 (AL (wM am ca M ++ xs) sz) := by
  refine met_of (by decide) (Nat.le_of_ble_eq_true rfl) (fun p e s m args below meth c K hr0 X hsz ls hl => ?_)
  have K : MC D ca p s m args meth c cX8_addTube 8 RX8 := K
  have hx := K.1
  have hb := K.2.1
  have hl : lv_has ls 8 [(0, .ref (am 0)), (1, .int a1), (2, .int a2), (3, .int a3), (4, .int a4), (5, .int a5)] := hl
  generalize hQ : MQ below _ args s 0 0 _ = Q
  unfold f_X8_addTube at h0
  suffices Z : ∀ (H : Heap) (locs : List Loc) (X : RW D (wM am ca M ++ xs) s.heap H locs), W p l e rm_X8_addTube s m args below meth c H locs 0 0 Q (F0 m 0 ls []) from Z _ _ X
  intro H locs X
  have J74 : ∀ (y74_s1 : Int32) (M_74 : RowS) (H : Heap) (locs : List Loc) (X : RW D (wM am ca M_74 ++ xs) s.heap H locs) (ls : Array Slot) (hl : lv_has ls 8 [(0, .ref (am 0)), (1, .int a1), (2, .int a2), (3, .int a3), (4, .int a4), (5, .int a5)]) (h0 : b_X8_addTube_74 n a1 a2 a3 a4 a5 y74_s1 M_74 = some (res, M')), W p l e rm_X8_addTube s m args below meth c H locs 0 0 Q (F0 m 74 ls [.int y74_s1, .ref (am 0)]) := by
    intro y74_s1 M_74 H locs X ls hl h0
    unfold b_X8_addTube_74 at h0
    refine lv_iconst (v := 2) hx hb dX8_addTube_74 (by decide) ?_
    obtain ⟨x9, ex9, h0⟩ := lt_out h0
    obtain ⟨Mv10, eMv10, h0⟩ := lt_out h0
    have kx9 := m_X8_fails l D ca am M_74 xs y74_s1 2 x9.1 x9.2 ex9.symm H.size
    rw [← eMv10] at kx9
    refine w_callV0 K X wM_fstx kx9 hl.1 2 q1507 q1509 q22 q97 q1510 hv_X8_fails ⟨⟨Nat.le_of_ble_eq_true rfl, Nat.le_of_ble_eq_true rfl⟩, rfl, rfl⟩ pl_modo rfl rfl rfl rfl (Nat.le_of_ble_eq_true rfl) dX8_addTube_75 ⟨Nat.le_of_ble_eq_true rfl, Nat.le_of_ble_eq_true rfl⟩ rfl (fun H locs X => ?_)
    refine w_zeq (tgt := 83) K dX8_addTube_78 (by decide) (fun c11 => ?_) (fun c11 => ?_)
    · have h0 := if_f c11 h0
      refine lv_aload_n hx hb dX8_addTube_83 rfl (lv_at hl 0 rfl) ?_
      refine g_modr K X 1 (by decide) (fun _ _ => rfl) q1400 dX8_addTube_84 ?_
      refine lv_iconst (v := 2) hx hb dX8_addTube_87 (by decide) ?_
      obtain ⟨c12, h0⟩ := if_o h0
      refine a_modi K X 1 1 102 rfl rfl (inb_vp c12) dX8_addTube_88 ?_
      obtain ⟨x13, ex13, h0⟩ := lt_out h0
      refine w_int ex13 ?_
      refine lv_istore (lv' := [(6, .int x13), (0, .ref (am 0)), (1, .int a1), (2, .int a2), (3, .int a3), (4, .int a4), (5, .int a5)]) hx hb dX8_addTube_89 hl (by decide) rfl (fun ls hl => ?_)
      refine lv_iload hx hb dX8_addTube_91 (lv_at hl 0 rfl) ?_
      refine lv_bipush (v := 12) hx hb dX8_addTube_93 (by decide) ?_
      refine lv_icmp_ne (tgt := 101) hx hb dX8_addTube_95 (by decide) (fun c14 => ?_) (fun c14 => ?_)
      · have h0 := if_f c14 h0
        refine lv_aload_n hx hb dX8_addTube_101 rfl (lv_at hl 1 rfl) ?_
        obtain ⟨x15, ex15, h0⟩ := ob_out h0
        obtain ⟨Mv16, eMv16, h0⟩ := lt_out h0
        have kx15 := m_X8_keeps l D ca am n Mv10 xs x15 ex15 H.size
        rw [← eMv16] at kx15
        refine w_callV0 K X wM_fstx kx15 hl.1 0 q1832 q1834 q70 q97 q1835 hv_X8_keeps ⟨⟨Nat.le_of_ble_eq_true rfl, Nat.le_of_ble_eq_true rfl⟩, rfl, rfl⟩ pl_modo rfl rfl rfl rfl (Nat.le_of_ble_eq_true rfl) dX8_addTube_102 ⟨Nat.le_of_ble_eq_true rfl, Nat.le_of_ble_eq_true rfl⟩ rfl (fun H locs X => ?_)
        refine lv_aload_n hx hb dX8_addTube_105 rfl (lv_at hl 1 rfl) ?_
        refine lv_iload hx hb dX8_addTube_106 (lv_at hl 0 rfl) ?_
        refine lv_iload_n hx hb dX8_addTube_108 rfl (lv_at hl 2 rfl) ?_
        refine lv_iload_n hx hb dX8_addTube_109 rfl (lv_at hl 3 rfl) ?_
        refine lv_iload_n hx hb dX8_addTube_110 rfl (lv_at hl 4 rfl) ?_
        refine lv_iload hx hb dX8_addTube_111 (lv_at hl 5 rfl) ?_
        refine lv_iload hx hb dX8_addTube_113 (lv_at hl 6 rfl) ?_
        obtain ⟨x17, ex17, h0⟩ := ob_out h0
        obtain ⟨Mv18, eMv18, h0⟩ := lt_out h0
        have kx17 := m_X8_laysTube l D ca am Mv16 xs x13 a1 a2 a3 a4 a5 x17 ex17 H.size
        rw [← eMv18] at kx17
        refine w_callV0 K X wM_fstx kx17 hl.1 6 q1594 q1596 q39 q97 q1597 hv_X8_laysTube ⟨⟨Nat.le_of_ble_eq_true rfl, Nat.le_of_ble_eq_true rfl⟩, rfl, rfl⟩ pl_modo rfl rfl rfl rfl (Nat.le_of_ble_eq_true rfl) dX8_addTube_115 ⟨Nat.le_of_ble_eq_true rfl, Nat.le_of_ble_eq_true rfl⟩ rfl (fun H locs X => ?_)
        refine lv_aload_n hx hb dX8_addTube_118 rfl (lv_at hl 1 rfl) ?_
        refine g_modr K X 1 (by decide) (fun _ _ => rfl) q1400 dX8_addTube_119 ?_
        refine lv_iconst (v := 2) hx hb dX8_addTube_122 (by decide) ?_
        refine lv_iload hx hb dX8_addTube_123 (lv_at hl 0 rfl) ?_
        refine lv_iconst (v := 1) hx hb dX8_addTube_125 (by decide) ?_
        refine lv_iadd hx hb dX8_addTube_126 ?_
        obtain ⟨c19, h0⟩ := if_o h0
        obtain ⟨Mv20, eMv20, h0⟩ := lt_out h0
        refine s_modi K X 1 1 102 rfl (fun _ => rfl) (inb_vp c19) eMv20 dX8_addTube_127 (fun H locs X => ?_)
        refine lv_aload_n hx hb dX8_addTube_128 rfl (lv_at hl 1 rfl) ?_
        obtain ⟨x21, ex21, h0⟩ := ob_out h0
        obtain ⟨Mv22, eMv22, h0⟩ := lt_out h0
        have kx21 := m_X8_settles l D ca am n Mv20 xs x21.1 x21.2 ex21 H.size
        rw [← eMv22] at kx21
        refine w_callV0 K X wM_fstx kx21 hl.1 0 q1615 q1617 q43 q97 q1618 hv_X8_settles ⟨⟨Nat.le_of_ble_eq_true rfl, Nat.le_of_ble_eq_true rfl⟩, rfl, rfl⟩ pl_modo rfl rfl rfl rfl (Nat.le_of_ble_eq_true rfl) dX8_addTube_129 ⟨Nat.le_of_ble_eq_true rfl, Nat.le_of_ble_eq_true rfl⟩ rfl (fun H locs X => ?_)
        obtain ⟨x23, ex23, h0⟩ := lt_out h0
        refine w_int ex23 ?_
        refine lv_istore (lv' := [(7, .int x23), (6, .int x13), (0, .ref (am 0)), (1, .int a1), (2, .int a2), (3, .int a3), (4, .int a4), (5, .int a5)]) hx hb dX8_addTube_132 hl (by decide) rfl (fun ls hl => ?_)
        refine lv_iload hx hb dX8_addTube_134 (lv_at hl 1 rfl) ?_
        have h0 := Option.some.inj h0
        obtain ⟨q_0, q_1⟩ := Prod.mk.inj h0
        subst q_0
        subst q_1
        subst hQ
        exact w_iret K hr0 X wM_fstx hsz dX8_addTube_136
      · have h0 := if_t c14 h0
        refine lv_bipush (v := (-2)) hx hb dX8_addTube_98 (by decide) ?_
        have h0 := Option.some.inj h0
        obtain ⟨q_0, q_1⟩ := Prod.mk.inj h0
        subst q_0
        subst q_1
        subst hQ
        exact w_iret K hr0 X wM_fstx hsz dX8_addTube_100
    · have h0 := if_t c11 h0
      refine lv_iconst (v := 0) hx hb dX8_addTube_81 (by decide) ?_
      have h0 := Option.some.inj h0
      obtain ⟨q_0, q_1⟩ := Prod.mk.inj h0
      subst q_0
      subst q_1
      subst hQ
      exact w_iret K hr0 X wM_fstx hsz dX8_addTube_82
  have J73 : ∀ (M_73 : RowS) (H : Heap) (locs : List Loc) (X : RW D (wM am ca M_73 ++ xs) s.heap H locs) (ls : Array Slot) (hl : lv_has ls 8 [(0, .ref (am 0)), (1, .int a1), (2, .int a2), (3, .int a3), (4, .int a4), (5, .int a5)]) (h0 : b_X8_addTube_73 n a1 a2 a3 a4 a5 M_73 = some (res, M')), W p l e rm_X8_addTube s m args below meth c H locs 0 0 Q (F0 m 73 ls [.ref (am 0)]) := by
    intro M_73 H locs X ls hl h0
    unfold b_X8_addTube_73 at h0
    refine lv_iconst (v := 0) hx hb dX8_addTube_73 (by decide) ?_
    exact J74 0 M_73 H locs X ls (lv_sub hl [0, 1, 2, 3, 4, 5] rfl) h0
  have J26 : ∀ (y26_s1 : Int32) (M_26 : RowS) (H : Heap) (locs : List Loc) (X : RW D (wM am ca M_26 ++ xs) s.heap H locs) (ls : Array Slot) (hl : lv_has ls 8 [(0, .ref (am 0)), (1, .int a1), (2, .int a2), (3, .int a3), (4, .int a4), (5, .int a5)]) (h0 : b_X8_addTube_26 n a1 a2 a3 a4 a5 y26_s1 M_26 = some (res, M')), W p l e rm_X8_addTube s m args below meth c H locs 0 0 Q (F0 m 26 ls [.int y26_s1, .ref (am 0)]) := by
    intro y26_s1 M_26 H locs X ls hl h0
    unfold b_X8_addTube_26 at h0
    refine lv_iconst (v := 1) hx hb dX8_addTube_26 (by decide) ?_
    obtain ⟨x4, ex4, h0⟩ := lt_out h0
    obtain ⟨Mv5, eMv5, h0⟩ := lt_out h0
    have kx4 := m_X8_fails l D ca am M_26 xs y26_s1 1 x4.1 x4.2 ex4.symm H.size
    rw [← eMv5] at kx4
    refine w_callV0 K X wM_fstx kx4 hl.1 2 q1507 q1509 q22 q97 q1510 hv_X8_fails ⟨⟨Nat.le_of_ble_eq_true rfl, Nat.le_of_ble_eq_true rfl⟩, rfl, rfl⟩ pl_modo rfl rfl rfl rfl (Nat.le_of_ble_eq_true rfl) dX8_addTube_27 ⟨Nat.le_of_ble_eq_true rfl, Nat.le_of_ble_eq_true rfl⟩ rfl (fun H locs X => ?_)
    refine w_zne (tgt := 81) K dX8_addTube_30 (by decide) (fun c6 => ?_) (fun c6 => ?_)
    · have h0 := if_t c6 h0
      refine lv_iconst (v := 0) hx hb dX8_addTube_81 (by decide) ?_
      have h0 := Option.some.inj h0
      obtain ⟨q_0, q_1⟩ := Prod.mk.inj h0
      subst q_0
      subst q_1
      subst hQ
      exact w_iret K hr0 X wM_fstx hsz dX8_addTube_82
    · have h0 := if_f c6 h0
      refine lv_aload_n hx hb dX8_addTube_33 rfl (lv_at hl 0 rfl) ?_
      refine lv_iload_n hx hb dX8_addTube_34 rfl (lv_at hl 3 rfl) ?_
      refine lv_i2l hx hb dX8_addTube_35 rfl ?_
      refine lv_lconst (v := 1) hx hb dX8_addTube_36 (by decide) ?_
      refine lv_ldc2 hx hb K.2.2.2.1 (K.2.2.2.2.1 _ q1875) dX8_addTube_37 ?_
      obtain ⟨x7, ex7, h0⟩ := lt_out h0
      have kx7 := m_X8_in l D ca (wM am ca Mv5 ++ xs) a3.toInt64 1 20 x7 ex7.symm H.size
      refine w_callS0 K X wM_fstx kx7 hl.1 3 q1504 q1505 q97 q1506 hs_X8_in ⟨⟨Nat.le_of_ble_eq_true rfl, Nat.le_of_ble_eq_true rfl⟩, rfl, rfl⟩ rfl rfl (Nat.le_of_ble_eq_true rfl) dX8_addTube_40 ⟨Nat.le_of_ble_eq_true rfl, Nat.le_of_ble_eq_true rfl⟩ rfl (fun H locs X => ?_)
      refine w_zeq (tgt := 73) K dX8_addTube_43 (by decide) (fun c8 => ?_) (fun c8 => ?_)
      · have h0 := if_f c8 h0
        exact J73 Mv5 H locs X ls (lv_sub hl [0, 1, 2, 3, 4, 5] rfl) h0
      · have h0 := if_t c8 h0
        refine lv_iload hx hb dX8_addTube_46 (lv_at hl 4 rfl) ?_
        obtain ⟨x24, ex24, h0⟩ := lt_out h0
        have kx24 := m_X8_isSlant l D ca (wM am ca Mv5 ++ xs) a4 x24 ex24.symm H.size
        refine w_callS0 K X wM_fstx kx24 hl.1 1 q1849 q1850 q97 q1851 hs_X8_isSlant ⟨⟨Nat.le_of_ble_eq_true rfl, Nat.le_of_ble_eq_true rfl⟩, rfl, rfl⟩ rfl rfl (Nat.le_of_ble_eq_true rfl) dX8_addTube_48 ⟨Nat.le_of_ble_eq_true rfl, Nat.le_of_ble_eq_true rfl⟩ rfl (fun H locs X => ?_)
        refine w_zeq (tgt := 73) K dX8_addTube_51 (by decide) (fun c25 => ?_) (fun c25 => ?_)
        · have h0 := if_f c25 h0
          exact J73 Mv5 H locs X ls (lv_sub hl [0, 1, 2, 3, 4, 5] rfl) h0
        · have h0 := if_t c25 h0
          refine lv_iload hx hb dX8_addTube_54 (lv_at hl 5 rfl) ?_
          refine lv_i2l hx hb dX8_addTube_56 rfl ?_
          refine lv_ldc2 hx hb K.2.2.2.1 (K.2.2.2.2.1 _ q1718) dX8_addTube_57 ?_
          refine lv_ldc2 hx hb K.2.2.2.1 (K.2.2.2.2.1 _ q1876) dX8_addTube_60 ?_
          obtain ⟨x26, ex26, h0⟩ := lt_out h0
          have kx26 := m_X8_in l D ca (wM am ca Mv5 ++ xs) a5.toInt64 10 2000 x26 ex26.symm H.size
          refine w_callS0 K X wM_fstx kx26 hl.1 3 q1504 q1505 q97 q1506 hs_X8_in ⟨⟨Nat.le_of_ble_eq_true rfl, Nat.le_of_ble_eq_true rfl⟩, rfl, rfl⟩ rfl rfl (Nat.le_of_ble_eq_true rfl) dX8_addTube_63 ⟨Nat.le_of_ble_eq_true rfl, Nat.le_of_ble_eq_true rfl⟩ rfl (fun H locs X => ?_)
          refine w_zeq (tgt := 73) K dX8_addTube_66 (by decide) (fun c27 => ?_) (fun c27 => ?_)
          · have h0 := if_f c27 h0
            exact J73 Mv5 H locs X ls (lv_sub hl [0, 1, 2, 3, 4, 5] rfl) h0
          · have h0 := if_t c27 h0
            refine lv_iconst (v := 1) hx hb dX8_addTube_69 (by decide) ?_
            refine lv_goto (tgt := 74) hx hb dX8_addTube_70 (by decide) ?_
            exact J74 1 Mv5 H locs X ls (lv_sub hl [0, 1, 2, 3, 4, 5] rfl) h0
  have J25 : ∀ (M_25 : RowS) (H : Heap) (locs : List Loc) (X : RW D (wM am ca M_25 ++ xs) s.heap H locs) (ls : Array Slot) (hl : lv_has ls 8 [(0, .ref (am 0)), (1, .int a1), (2, .int a2), (3, .int a3), (4, .int a4), (5, .int a5)]) (h0 : b_X8_addTube_25 n a1 a2 a3 a4 a5 M_25 = some (res, M')), W p l e rm_X8_addTube s m args below meth c H locs 0 0 Q (F0 m 25 ls [.ref (am 0)]) := by
    intro M_25 H locs X ls hl h0
    unfold b_X8_addTube_25 at h0
    refine lv_iconst (v := 0) hx hb dX8_addTube_25 (by decide) ?_
    exact J26 0 M_25 H locs X ls (lv_sub hl [0, 1, 2, 3, 4, 5] rfl) h0
  refine lv_aload_n hx hb dX8_addTube_0 rfl (lv_at hl 0 rfl) ?_
  refine lv_iconst (v := 0) hx hb dX8_addTube_1 (by decide) ?_
  obtain ⟨Mv1, eMv1, h0⟩ := lt_out h0
  refine p_modi (ty := .int) K X 0 (by decide) (fun _ _ => rfl) (by decide +kernel) ⟨rfl, rfl⟩ eMv1 q1399 dX8_addTube_2 (fun H locs X => ?_)
  refine lv_aload_n hx hb dX8_addTube_5 rfl (lv_at hl 0 rfl) ?_
  refine lv_iload_n hx hb dX8_addTube_6 rfl (lv_at hl 1 rfl) ?_
  obtain ⟨x2, ex2, h0⟩ := lt_out h0
  have kx2 := m_X8_isLeg l D ca (wM am ca Mv1 ++ xs) a1 x2 ex2.symm H.size
  refine w_callS0 K X wM_fstx kx2 hl.1 1 q1697 q1698 q97 q1699 hs_X8_isLeg ⟨⟨Nat.le_of_ble_eq_true rfl, Nat.le_of_ble_eq_true rfl⟩, rfl, rfl⟩ rfl rfl (Nat.le_of_ble_eq_true rfl) dX8_addTube_7 ⟨Nat.le_of_ble_eq_true rfl, Nat.le_of_ble_eq_true rfl⟩ rfl (fun H locs X => ?_)
  refine w_zeq (tgt := 25) K dX8_addTube_10 (by decide) (fun c3 => ?_) (fun c3 => ?_)
  · have h0 := if_f c3 h0
    exact J25 Mv1 H locs X ls (lv_sub hl [0, 1, 2, 3, 4, 5] rfl) h0
  · have h0 := if_t c3 h0
    refine lv_aload_n hx hb dX8_addTube_13 rfl (lv_at hl 0 rfl) ?_
    refine lv_iload_n hx hb dX8_addTube_14 rfl (lv_at hl 2 rfl) ?_
    obtain ⟨x28, ex28, h0⟩ := ob_out h0
    have kx28 := m_X8_isPoint l D ca am Mv1 xs a2 x28 ex28 H.size
    refine w_callV0 K X wM_fstx kx28 hl.1 1 q1689 q1691 q58 q97 q1692 hv_X8_isPoint ⟨⟨Nat.le_of_ble_eq_true rfl, Nat.le_of_ble_eq_true rfl⟩, rfl, rfl⟩ pl_modo rfl rfl rfl rfl (Nat.le_of_ble_eq_true rfl) dX8_addTube_15 ⟨Nat.le_of_ble_eq_true rfl, Nat.le_of_ble_eq_true rfl⟩ rfl (fun H locs X => ?_)
    refine w_zeq (tgt := 25) K dX8_addTube_18 (by decide) (fun c29 => ?_) (fun c29 => ?_)
    · have h0 := if_f c29 h0
      exact J25 Mv1 H locs X ls (lv_sub hl [0, 1, 2, 3, 4, 5] rfl) h0
    · have h0 := if_t c29 h0
      refine lv_iconst (v := 1) hx hb dX8_addTube_21 (by decide) ?_
      refine lv_goto (tgt := 26) hx hb dX8_addTube_22 (by decide) ?_
      exact J26 1 Mv1 H locs X ls (lv_sub hl [0, 1, 2, 3, 4, 5] rfl) h0
-- X8_dropTube
def b_X8_dropTube_75 (n : Nat) (M_75 : RowS) : Option (Int32 × RowS) :=
  ob (f_X8_settles n M_75) fun x15 =>
  lt (x15.2) fun Mv16 =>
  lt (x15.1) fun x17 =>
  if 0 ≤ (2 : Int32).toInt ∧ (2 : Int32).toInt < 102 then
    some ((Mv16.1 1 (2 : Int32).toNatClampNeg), Mv16)
  else none
def l_X8_dropTube_40  (z40_2 : Int32) (Mz_40 : RowS) : Option ((Int32 × RowS) ⊕ RowS) :=
  if 0 ≤ (2 : Int32).toInt ∧ (2 : Int32).toInt < 102 then
    lt (f_X8_cell (Mz_40.1 1 (2 : Int32).toNatClampNeg) 0) fun x13 =>
    if x13 ≤ z40_2 then
      some (.inr Mz_40)
    else
      if 0 ≤ (z40_2 + 7).toInt ∧ (z40_2 + 7).toInt < 102 then
        if 0 ≤ z40_2.toInt ∧ z40_2.toInt < 102 then
          lt (si Mz_40 1 z40_2.toNatClampNeg (Mz_40.1 1 (z40_2 + 7).toNatClampNeg)) fun Mv21 =>
          lt (z40_2 + 1) fun x22 =>
          some (.inl (x22, Mv21))
        else none
      else none
  else none
def f_X8_dropTube (n : Nat) (M : RowS) (a1 : Int32) : Option (Int32 × RowS) :=
  lt (si M 0 0 0) fun Mv1 =>
  ob (f_X8_isTube Mv1 a1) fun x2 =>
  lt (f_X8_fails Mv1 (b2i x2) 1) fun x3 =>
  lt (x3.2) fun Mv4 =>
  if x3.1 = true then
    some (0, Mv4)
  else
    ob (f_X8_keeps n Mv4) fun x6 =>
    lt (x6) fun Mv7 =>
    if 0 ≤ (2 : Int32).toInt ∧ (2 : Int32).toInt < 102 then
      if 0 ≤ (2 : Int32).toInt ∧ (2 : Int32).toInt < 102 then
        lt (si Mv7 1 (2 : Int32).toNatClampNeg ((Mv7.1 1 (2 : Int32).toNatClampNeg) - 1)) fun Mv10 =>
        lt (f_X8_cell a1 0) fun x11 =>
        ob (wloop (fun t => l_X8_dropTube_40 t.1 t.2) n (x11, Mv10)) (fun t => b_X8_dropTube_75 n t)
      else none
    else none
abbrev rm_X8_dropTube : Room := { frames := 9, cells := 0, slots := 0, locals := 219 }
set_option maxRecDepth 100000 in
set_option maxHeartbeats 4000000 in
theorem m_X8_dropTube (l : Launch) (D : va_G) (ca : Nat → ClassId) (am : Nat → Nat) (n : Nat) (M : RowS) (xs : va_W) (a1 : Int32) (res : Int32) (M' : RowS) (h0 : f_X8_dropTube n M a1 = some (res, M')) (sz : Nat) : Met l yX8_dropTube (ws_ yX8_dropTube cX8_dropTube 3 (some .int)) rm_X8_dropTube (PCw D ca (wM am ca M ++ xs) sz [.ref (am 0), .int a1]) (QMw D (wM am ca M ++ xs) (wM am ca (M') ++ xs) sz (some (.int res))) 0 0 (AL (wM am ca M ++ xs) sz) := by
  refine met_of (by decide) (Nat.le_of_ble_eq_true rfl) (fun p e s m args below meth c K hr0 X hsz ls hl => ?_)
  have K : MC D ca p s m args meth c cX8_dropTube 3 RX8 := K
  have hx := K.1
  have hb := K.2.1
  have hl : lv_has ls 3 [(0, .ref (am 0)), (1, .int a1)] := hl
  generalize hQ : MQ below _ args s 0 0 _ = Q
  unfold f_X8_dropTube at h0
  suffices Z : ∀ (H : Heap) (locs : List Loc) (X : RW D (wM am ca M ++ xs) s.heap H locs), W p l e rm_X8_dropTube s m args below meth c H locs 0 0 Q (F0 m 0 ls []) from Z _ _ X
  intro H locs X
  have J75 : ∀ (M_75 : RowS) (H : Heap) (locs : List Loc) (X : RW D (wM am ca M_75 ++ xs) s.heap H locs) (ls : Array Slot) (hl : lv_has ls 3 [(0, .ref (am 0))]) (h0 : b_X8_dropTube_75 n M_75 = some (res, M')), W p l e rm_X8_dropTube s m args below meth c H locs 0 0 Q (F0 m 75 ls []) := by
    intro M_75 H locs X ls hl h0
    unfold b_X8_dropTube_75 at h0
    refine lv_aload_n hx hb dX8_dropTube_75 rfl (lv_at hl 0 rfl) ?_
    obtain ⟨x15, ex15, h0⟩ := ob_out h0
    obtain ⟨Mv16, eMv16, h0⟩ := lt_out h0
    have kx15 := m_X8_settles l D ca am n M_75 xs x15.1 x15.2 ex15 H.size
    rw [← eMv16] at kx15
    refine w_callV0 K X wM_fstx kx15 hl.1 0 q1615 q1617 q43 q97 q1618 hv_X8_settles ⟨⟨Nat.le_of_ble_eq_true rfl, Nat.le_of_ble_eq_true rfl⟩, rfl, rfl⟩ pl_modo rfl rfl rfl rfl (Nat.le_of_ble_eq_true rfl) dX8_dropTube_76 ⟨Nat.le_of_ble_eq_true rfl, Nat.le_of_ble_eq_true rfl⟩ rfl (fun H locs X => ?_)
    obtain ⟨x17, ex17, h0⟩ := lt_out h0
    refine w_int ex17 ?_
    refine lv_istore_n (lv' := [(2, .int x17), (0, .ref (am 0))]) hx hb dX8_dropTube_79 rfl hl (by decide) rfl (fun ls hl => ?_)
    refine lv_aload_n hx hb dX8_dropTube_80 rfl (lv_at hl 1 rfl) ?_
    refine g_modr K X 1 (by decide) (fun _ _ => rfl) q1400 dX8_dropTube_81 ?_
    refine lv_iconst (v := 2) hx hb dX8_dropTube_84 (by decide) ?_
    obtain ⟨c18, h0⟩ := if_o h0
    refine a_modi K X 1 1 102 rfl rfl (inb_vp c18) dX8_dropTube_85 ?_
    have h0 := Option.some.inj h0
    obtain ⟨q_0, q_1⟩ := Prod.mk.inj h0
    subst q_0
    subst q_1
    subst hQ
    exact w_iret K hr0 X wM_fstx hsz dX8_dropTube_86
  refine lv_aload_n hx hb dX8_dropTube_0 rfl (lv_at hl 0 rfl) ?_
  refine lv_iconst (v := 0) hx hb dX8_dropTube_1 (by decide) ?_
  obtain ⟨Mv1, eMv1, h0⟩ := lt_out h0
  refine p_modi (ty := .int) K X 0 (by decide) (fun _ _ => rfl) (by decide +kernel) ⟨rfl, rfl⟩ eMv1 q1399 dX8_dropTube_2 (fun H locs X => ?_)
  refine lv_aload_n hx hb dX8_dropTube_5 rfl (lv_at hl 0 rfl) ?_
  refine lv_aload_n hx hb dX8_dropTube_6 rfl (lv_at hl 0 rfl) ?_
  refine lv_iload_n hx hb dX8_dropTube_7 rfl (lv_at hl 1 rfl) ?_
  obtain ⟨x2, ex2, h0⟩ := ob_out h0
  have kx2 := m_X8_isTube l D ca am Mv1 xs a1 x2 ex2 H.size
  refine w_callV0 K X wM_fstx kx2 hl.1 1 q1714 q1716 q60 q97 q1717 hv_X8_isTube ⟨⟨Nat.le_of_ble_eq_true rfl, Nat.le_of_ble_eq_true rfl⟩, rfl, rfl⟩ pl_modo rfl rfl rfl rfl (Nat.le_of_ble_eq_true rfl) dX8_dropTube_8 ⟨Nat.le_of_ble_eq_true rfl, Nat.le_of_ble_eq_true rfl⟩ rfl (fun H locs X => ?_)
  refine lv_iconst (v := 1) hx hb dX8_dropTube_11 (by decide) ?_
  obtain ⟨x3, ex3, h0⟩ := lt_out h0
  obtain ⟨Mv4, eMv4, h0⟩ := lt_out h0
  have kx3 := m_X8_fails l D ca am Mv1 xs (b2i x2) 1 x3.1 x3.2 ex3.symm H.size
  rw [← eMv4] at kx3
  refine w_callV0 K X wM_fstx kx3 hl.1 2 q1507 q1509 q22 q97 q1510 hv_X8_fails ⟨⟨Nat.le_of_ble_eq_true rfl, Nat.le_of_ble_eq_true rfl⟩, rfl, rfl⟩ pl_modo rfl rfl rfl rfl (Nat.le_of_ble_eq_true rfl) dX8_dropTube_12 ⟨Nat.le_of_ble_eq_true rfl, Nat.le_of_ble_eq_true rfl⟩ rfl (fun H locs X => ?_)
  refine w_zeq (tgt := 20) K dX8_dropTube_15 (by decide) (fun c5 => ?_) (fun c5 => ?_)
  · have h0 := if_f c5 h0
    refine lv_aload_n hx hb dX8_dropTube_20 rfl (lv_at hl 0 rfl) ?_
    obtain ⟨x6, ex6, h0⟩ := ob_out h0
    obtain ⟨Mv7, eMv7, h0⟩ := lt_out h0
    have kx6 := m_X8_keeps l D ca am n Mv4 xs x6 ex6 H.size
    rw [← eMv7] at kx6
    refine w_callV0 K X wM_fstx kx6 hl.1 0 q1832 q1834 q70 q97 q1835 hv_X8_keeps ⟨⟨Nat.le_of_ble_eq_true rfl, Nat.le_of_ble_eq_true rfl⟩, rfl, rfl⟩ pl_modo rfl rfl rfl rfl (Nat.le_of_ble_eq_true rfl) dX8_dropTube_21 ⟨Nat.le_of_ble_eq_true rfl, Nat.le_of_ble_eq_true rfl⟩ rfl (fun H locs X => ?_)
    refine lv_aload_n hx hb dX8_dropTube_24 rfl (lv_at hl 0 rfl) ?_
    refine g_modr K X 1 (by decide) (fun _ _ => rfl) q1400 dX8_dropTube_25 ?_
    refine lv_iconst (v := 2) hx hb dX8_dropTube_28 (by decide) ?_
    refine lv_dup2_11 hx hb dX8_dropTube_29 rfl rfl ?_
    obtain ⟨c8, h0⟩ := if_o h0
    refine a_modi K X 1 1 102 rfl rfl (inb_vp c8) dX8_dropTube_30 ?_
    refine lv_iconst (v := 1) hx hb dX8_dropTube_31 (by decide) ?_
    refine lv_isub hx hb dX8_dropTube_32 ?_
    obtain ⟨c9, h0⟩ := if_o h0
    obtain ⟨Mv10, eMv10, h0⟩ := lt_out h0
    refine s_modi K X 1 1 102 rfl (fun _ => rfl) (inb_vp c9) eMv10 dX8_dropTube_33 (fun H locs X => ?_)
    refine lv_iload_n hx hb dX8_dropTube_34 rfl (lv_at hl 1 rfl) ?_
    refine lv_iconst (v := 0) hx hb dX8_dropTube_35 (by decide) ?_
    obtain ⟨x11, ex11, h0⟩ := lt_out h0
    have kx11 := m_X8_cell l D ca (wM am ca Mv10 ++ xs) a1 0 x11 ex11.symm H.size
    refine w_callS0 K X wM_fstx kx11 hl.1 2 q1598 q1599 q97 q1600 hs_X8_cell ⟨⟨Nat.le_of_ble_eq_true rfl, Nat.le_of_ble_eq_true rfl⟩, rfl, rfl⟩ rfl rfl (Nat.le_of_ble_eq_true rfl) dX8_dropTube_36 ⟨Nat.le_of_ble_eq_true rfl, Nat.le_of_ble_eq_true rfl⟩ rfl (fun H locs X => ?_)
    refine lv_istore_n (lv' := [(2, .int x11), (0, .ref (am 0)), (1, .int a1)]) hx hb dX8_dropTube_39 rfl hl (by decide) rfl (fun ls hl => ?_)
    obtain ⟨e_1, he1, h0⟩ := ob_out h0
    have K40 : ∀ (k : Nat) (z40_2 : Int32) (Mz_40 : RowS) (H : Heap) (locs : List Loc) (X : RW D (wM am ca Mz_40 ++ xs) s.heap H locs) (ls : Array Slot) (hl : lv_has ls 3 [(0, .ref (am 0)), (2, .int z40_2)]) (hw : wloop (fun t => l_X8_dropTube_40 t.1 t.2) k (z40_2, Mz_40) = some e_1), W p l e rm_X8_dropTube s m args below meth c H locs 0 0 Q (F0 m 40 ls []) := by
      intro k
      induction k with
      | zero => intro z40_2 Mz_40 H locs X ls hl hw; exact (wloop_0 hw).elim
      | succ k ih1 =>
        intro z40_2 Mz_40 H locs X ls hl hw
        obtain ⟨x_1, h1, hx1⟩ := wloop_out hw
        have h1 : l_X8_dropTube_40 z40_2 Mz_40 = some x_1 := h1
        unfold l_X8_dropTube_40 at h1
        refine lv_iload_n hx hb dX8_dropTube_40 rfl (lv_at hl 1 rfl) ?_
        refine lv_aload_n hx hb dX8_dropTube_41 rfl (lv_at hl 0 rfl) ?_
        refine g_modr K X 1 (by decide) (fun _ _ => rfl) q1400 dX8_dropTube_42 ?_
        refine lv_iconst (v := 2) hx hb dX8_dropTube_45 (by decide) ?_
        obtain ⟨c12, h1⟩ := if_o h1
        refine a_modi K X 1 1 102 rfl rfl (inb_vp c12) dX8_dropTube_46 ?_
        refine lv_iconst (v := 0) hx hb dX8_dropTube_47 (by decide) ?_
        obtain ⟨x13, ex13, h1⟩ := lt_out h1
        have kx13 := m_X8_cell l D ca (wM am ca Mz_40 ++ xs) (Mz_40.1 1 (2 : Int32).toNatClampNeg) 0 x13 ex13.symm H.size
        refine w_callS0 K X wM_fstx kx13 hl.1 2 q1598 q1599 q97 q1600 hs_X8_cell ⟨⟨Nat.le_of_ble_eq_true rfl, Nat.le_of_ble_eq_true rfl⟩, rfl, rfl⟩ rfl rfl (Nat.le_of_ble_eq_true rfl) dX8_dropTube_48 ⟨Nat.le_of_ble_eq_true rfl, Nat.le_of_ble_eq_true rfl⟩ rfl (fun H locs X => ?_)
        refine lv_icmp_ge (tgt := 75) hx hb dX8_dropTube_51 (by decide) (fun c14 => ?_) (fun c14 => ?_)
        · have h1 := if_t c14 h1
          have q1 := wl_r h1 hx1
          exact J75 Mz_40 H locs X ls (lv_sub hl [0] rfl) (by rw [q1] at h0; exact h0)
        · have h1 := if_f c14 h1
          refine lv_aload_n hx hb dX8_dropTube_54 rfl (lv_at hl 0 rfl) ?_
          refine g_modr K X 1 (by decide) (fun _ _ => rfl) q1400 dX8_dropTube_55 ?_
          refine lv_iload_n hx hb dX8_dropTube_58 rfl (lv_at hl 1 rfl) ?_
          refine lv_aload_n hx hb dX8_dropTube_59 rfl (lv_at hl 0 rfl) ?_
          refine g_modr K X 1 (by decide) (fun _ _ => rfl) q1400 dX8_dropTube_60 ?_
          refine lv_iload_n hx hb dX8_dropTube_63 rfl (lv_at hl 1 rfl) ?_
          refine lv_bipush (v := 7) hx hb dX8_dropTube_64 (by decide) ?_
          refine lv_iadd hx hb dX8_dropTube_66 ?_
          obtain ⟨c19, h1⟩ := if_o h1
          refine a_modi K X 1 1 102 rfl rfl (inb_vp c19) dX8_dropTube_67 ?_
          obtain ⟨c20, h1⟩ := if_o h1
          obtain ⟨Mv21, eMv21, h1⟩ := lt_out h1
          refine s_modi K X 1 1 102 rfl (fun _ => rfl) (inb_vp c20) eMv21 dX8_dropTube_68 (fun H locs X => ?_)
          obtain ⟨x22, ex22, h1⟩ := lt_out h1
          refine lv_iinc (v := x22) (lv' := [(2, .int x22), (0, .ref (am 0))]) hx hb dX8_dropTube_69 hl (k := 1) rfl (by rw [ex22]; rfl) (by decide) rfl (fun ls hl => ?_)
          refine lv_goto (tgt := 40) hx hb dX8_dropTube_72 (by decide) ?_
          exact ih1 x22 Mv21 H locs X ls (lv_sub hl [1, 0] rfl) (wl_l h1 hx1)
    exact K40 n x11 Mv10 H locs X ls (lv_sub hl [1, 0] rfl) he1
  · have h0 := if_t c5 h0
    refine lv_iconst (v := 0) hx hb dX8_dropTube_18 (by decide) ?_
    have h0 := Option.some.inj h0
    obtain ⟨q_0, q_1⟩ := Prod.mk.inj h0
    subst q_0
    subst q_1
    subst hQ
    exact w_iret K hr0 X wM_fstx hsz dX8_dropTube_19
-- X8_undoCount
def f_X8_undoCount (M : RowS) : (Int32 × RowS) :=
  lt (si M 0 0 0) fun Mv1 =>
  ((Mv1.1 0 9), Mv1)
abbrev rm_X8_undoCount : Room := { frames := 0, cells := 0, slots := 0, locals := 0 }
set_option maxRecDepth 100000 in
set_option maxHeartbeats 4000000 in
theorem m_X8_undoCount (l : Launch) (D : va_G) (ca : Nat → ClassId) (am : Nat → Nat) (M : RowS) (xs : va_W) (res : Int32) (M' : RowS) (h0 : f_X8_undoCount M = (res, M')) (sz : Nat) : Met l yX8_undoCount (ws_ yX8_undoCount cX8_undoCount 1 (some .int)) rm_X8_undoCount (PCw D ca (wM am ca M ++ xs) sz [.ref (am 0)]) (QMw D (wM am ca M ++ xs) (wM am ca (M') ++ xs) sz (some (.int res))) 0 0 (AL (wM am ca M ++ xs) sz) := by
  refine met_of (by decide) (Nat.le_of_ble_eq_true rfl) (fun p e s m args below meth c K hr0 X hsz ls hl => ?_)
  have K : MC D ca p s m args meth c cX8_undoCount 1 RX8 := K
  have hx := K.1
  have hb := K.2.1
  have hl : lv_has ls 1 [(0, .ref (am 0))] := hl
  generalize hQ : MQ below _ args s 0 0 _ = Q
  unfold f_X8_undoCount at h0
  suffices Z : ∀ (H : Heap) (locs : List Loc) (X : RW D (wM am ca M ++ xs) s.heap H locs), W p l e rm_X8_undoCount s m args below meth c H locs 0 0 Q (F0 m 0 ls []) from Z _ _ X
  intro H locs X
  refine lv_aload_n hx hb dX8_undoCount_0 rfl (lv_at hl 0 rfl) ?_
  refine lv_iconst (v := 0) hx hb dX8_undoCount_1 (by decide) ?_
  obtain ⟨Mv1, eMv1, h0⟩ := lt_out h0
  refine p_modi (ty := .int) K X 0 (by decide) (fun _ _ => rfl) (by decide +kernel) ⟨rfl, rfl⟩ eMv1 q1399 dX8_undoCount_2 (fun H locs X => ?_)
  refine lv_aload_n hx hb dX8_undoCount_5 rfl (lv_at hl 0 rfl) ?_
  refine g_modi K X 9 (by decide) (fun _ _ => rfl) q1408 dX8_undoCount_6 ?_
  obtain ⟨q_0, q_1⟩ := Prod.mk.inj h0
  subst q_0
  subst q_1
  subst hQ
  exact w_iret K hr0 X wM_fstx hsz dX8_undoCount_9
-- X8_undo
def f_X8_undo (n : Nat) (M : RowS) : Option (Int32 × RowS) :=
  lt (si M 0 0 0) fun Mv1 =>
  if (Mv1.1 0 9) = 0 then
    some ((-1), Mv1)
  else
    lt (si Mv1 0 9 ((Mv1.1 0 9) - 1)) fun Mv3 =>
    ob (f_X8_copies n Mv3 4 1020 (102 * (Mv3.1 0 9)) 1 102 0) fun x4 =>
    lt (x4) fun Mv5 =>
    ob (f_X8_copiesLongs n Mv5 8 60 (6 * (Mv5.1 0 9)) 5 6 0) fun x6 =>
    lt (x6) fun Mv7 =>
    some ((Mv7.1 0 9), Mv7)
abbrev rm_X8_undo : Room := { frames := 1, cells := 0, slots := 0, locals := 24 }
set_option maxRecDepth 100000 in
set_option maxHeartbeats 4000000 in
theorem m_X8_undo (l : Launch) (D : va_G) (ca : Nat → ClassId) (am : Nat → Nat) (n : Nat) (M : RowS) (xs : va_W) (res : Int32) (M' : RowS) (h0 : f_X8_undo n M = some (res, M')) (sz : Nat) : Met l yX8_undo (ws_ yX8_undo cX8_undo 1 (some .int)) rm_X8_undo (PCw D ca (wM am ca M ++ xs) sz [.ref (am 0)]) (QMw D (wM am ca M ++ xs) (wM am ca (M') ++ xs) sz (some (.int res))) 0 0 (AL (wM am ca M ++ xs) sz) := by
  refine met_of (by decide) (Nat.le_of_ble_eq_true rfl) (fun p e s m args below meth c K hr0 X hsz ls hl => ?_)
  have K : MC D ca p s m args meth c cX8_undo 1 RX8 := K
  have hx := K.1
  have hb := K.2.1
  have hl : lv_has ls 1 [(0, .ref (am 0))] := hl
  generalize hQ : MQ below _ args s 0 0 _ = Q
  unfold f_X8_undo at h0
  suffices Z : ∀ (H : Heap) (locs : List Loc) (X : RW D (wM am ca M ++ xs) s.heap H locs), W p l e rm_X8_undo s m args below meth c H locs 0 0 Q (F0 m 0 ls []) from Z _ _ X
  intro H locs X
  refine lv_aload_n hx hb dX8_undo_0 rfl (lv_at hl 0 rfl) ?_
  refine lv_iconst (v := 0) hx hb dX8_undo_1 (by decide) ?_
  obtain ⟨Mv1, eMv1, h0⟩ := lt_out h0
  refine p_modi (ty := .int) K X 0 (by decide) (fun _ _ => rfl) (by decide +kernel) ⟨rfl, rfl⟩ eMv1 q1399 dX8_undo_2 (fun H locs X => ?_)
  refine lv_aload_n hx hb dX8_undo_5 rfl (lv_at hl 0 rfl) ?_
  refine g_modi K X 9 (by decide) (fun _ _ => rfl) q1408 dX8_undo_6 ?_
  refine lv_if_ne (tgt := 14) hx hb dX8_undo_9 (by decide) (fun c2 => ?_) (fun c2 => ?_)
  · have h0 := if_f c2 h0
    refine lv_aload_n hx hb dX8_undo_14 rfl (lv_at hl 0 rfl) ?_
    refine lv_dup hx hb dX8_undo_15 rfl ?_
    refine g_modi K X 9 (by decide) (fun _ _ => rfl) q1408 dX8_undo_16 ?_
    refine lv_iconst (v := 1) hx hb dX8_undo_19 (by decide) ?_
    refine lv_isub hx hb dX8_undo_20 ?_
    obtain ⟨Mv3, eMv3, h0⟩ := lt_out h0
    refine p_modi (ty := .int) K X 9 (by decide) (fun _ _ => rfl) (by decide +kernel) ⟨rfl, rfl⟩ eMv3 q1408 dX8_undo_21 (fun H locs X => ?_)
    refine lv_aload_n hx hb dX8_undo_24 rfl (lv_at hl 0 rfl) ?_
    refine g_modr K X 4 (by decide) (fun _ _ => rfl) q1403 dX8_undo_25 ?_
    refine lv_bipush (v := 102) hx hb dX8_undo_28 (by decide) ?_
    refine lv_aload_n hx hb dX8_undo_30 rfl (lv_at hl 0 rfl) ?_
    refine g_modi K X 9 (by decide) (fun _ _ => rfl) q1408 dX8_undo_31 ?_
    refine lv_imul hx hb dX8_undo_34 ?_
    refine lv_aload_n hx hb dX8_undo_35 rfl (lv_at hl 0 rfl) ?_
    refine g_modr K X 1 (by decide) (fun _ _ => rfl) q1400 dX8_undo_36 ?_
    refine lv_iconst (v := 0) hx hb dX8_undo_39 (by decide) ?_
    obtain ⟨x4, ex4, h0⟩ := ob_out h0
    obtain ⟨Mv5, eMv5, h0⟩ := lt_out h0
    have kx4 := m_X8_copies l D ca am n Mv3 xs 4 1020 4 ⟨rfl, fun _ => rfl⟩ (102 * (Mv3.1 0 9)) 1 102 1 ⟨rfl, fun _ => rfl⟩ 0 x4 ex4 H.size
    rw [← eMv5] at kx4
    refine w_callS0 K X wM_fstx kx4 hl.1 4 q1515 q1516 q97 q1517 hs_X8_copies ⟨⟨Nat.le_of_ble_eq_true rfl, Nat.le_of_ble_eq_true rfl⟩, rfl, rfl⟩ rfl rfl (Nat.le_of_ble_eq_true rfl) dX8_undo_40 ⟨Nat.le_of_ble_eq_true rfl, Nat.le_of_ble_eq_true rfl⟩ rfl (fun H locs X => ?_)
    refine lv_aload_n hx hb dX8_undo_43 rfl (lv_at hl 0 rfl) ?_
    refine g_modr K X 8 (by decide) (fun _ _ => rfl) q1407 dX8_undo_44 ?_
    refine lv_bipush (v := 6) hx hb dX8_undo_47 (by decide) ?_
    refine lv_aload_n hx hb dX8_undo_49 rfl (lv_at hl 0 rfl) ?_
    refine g_modi K X 9 (by decide) (fun _ _ => rfl) q1408 dX8_undo_50 ?_
    refine lv_imul hx hb dX8_undo_53 ?_
    refine lv_aload_n hx hb dX8_undo_54 rfl (lv_at hl 0 rfl) ?_
    refine g_modr K X 5 (by decide) (fun _ _ => rfl) q1404 dX8_undo_55 ?_
    refine lv_iconst (v := 0) hx hb dX8_undo_58 (by decide) ?_
    obtain ⟨x6, ex6, h0⟩ := ob_out h0
    obtain ⟨Mv7, eMv7, h0⟩ := lt_out h0
    have kx6 := m_X8_copiesLongs l D ca am n Mv5 xs 8 60 8 ⟨rfl, fun _ => rfl⟩ (6 * (Mv5.1 0 9)) 5 6 5 ⟨rfl, fun _ => rfl⟩ 0 x6 ex6 H.size
    rw [← eMv7] at kx6
    refine w_callS0 K X wM_fstx kx6 hl.1 4 q1518 q1519 q97 q1520 hs_X8_copiesLongs ⟨⟨Nat.le_of_ble_eq_true rfl, Nat.le_of_ble_eq_true rfl⟩, rfl, rfl⟩ rfl rfl (Nat.le_of_ble_eq_true rfl) dX8_undo_59 ⟨Nat.le_of_ble_eq_true rfl, Nat.le_of_ble_eq_true rfl⟩ rfl (fun H locs X => ?_)
    refine lv_aload_n hx hb dX8_undo_62 rfl (lv_at hl 0 rfl) ?_
    refine g_modi K X 9 (by decide) (fun _ _ => rfl) q1408 dX8_undo_63 ?_
    have h0 := Option.some.inj h0
    obtain ⟨q_0, q_1⟩ := Prod.mk.inj h0
    subst q_0
    subst q_1
    subst hQ
    exact w_iret K hr0 X wM_fstx hsz dX8_undo_66
  · have h0 := if_t c2 h0
    refine lv_iconst (v := (-1)) hx hb dX8_undo_12 (by decide) ?_
    have h0 := Option.some.inj h0
    obtain ⟨q_0, q_1⟩ := Prod.mk.inj h0
    subst q_0
    subst q_1
    subst hQ
    exact w_iret K hr0 X wM_fstx hsz dX8_undo_13
-- X8_saveSnapshot
def f_X8_saveSnapshot (n : Nat) (M : RowS) : Option RowS :=
  lt (si M 0 0 0) fun Mv1 =>
  ob (f_X8_copies n Mv1 1 102 0 2 102 0) fun x2 =>
  lt (x2) fun Mv3 =>
  ob (f_X8_copiesLongs n Mv3 5 6 0 6 6 0) fun x4 =>
  lt (x4) fun Mv5 =>
  lt (si Mv5 0 10 1) fun Mv6 =>
  some Mv6
abbrev rm_X8_saveSnapshot : Room := { frames := 1, cells := 0, slots := 0, locals := 24 }
set_option maxRecDepth 100000 in
set_option maxHeartbeats 4000000 in
theorem m_X8_saveSnapshot (l : Launch) (D : va_G) (ca : Nat → ClassId) (am : Nat → Nat) (n : Nat) (M : RowS) (xs : va_W) (M' : RowS) (h0 : f_X8_saveSnapshot n M = some M') (sz : Nat) : Met l yX8_saveSnapshot (ws_ yX8_saveSnapshot cX8_saveSnapshot 1 none) rm_X8_saveSnapshot (PCw D ca (wM am ca M ++ xs) sz [.ref (am 0)]) (QMw D (wM am ca M ++ xs) (wM am ca (M') ++ xs) sz none) 0 0 (AL (wM am ca M ++ xs) sz) := by
  refine met_of (by decide) (Nat.le_of_ble_eq_true rfl) (fun p e s m args below meth c K hr0 X hsz ls hl => ?_)
  have K : MC D ca p s m args meth c cX8_saveSnapshot 1 RX8 := K
  have hx := K.1
  have hb := K.2.1
  have hl : lv_has ls 1 [(0, .ref (am 0))] := hl
  generalize hQ : MQ below _ args s 0 0 _ = Q
  unfold f_X8_saveSnapshot at h0
  suffices Z : ∀ (H : Heap) (locs : List Loc) (X : RW D (wM am ca M ++ xs) s.heap H locs), W p l e rm_X8_saveSnapshot s m args below meth c H locs 0 0 Q (F0 m 0 ls []) from Z _ _ X
  intro H locs X
  refine lv_aload_n hx hb dX8_saveSnapshot_0 rfl (lv_at hl 0 rfl) ?_
  refine lv_iconst (v := 0) hx hb dX8_saveSnapshot_1 (by decide) ?_
  obtain ⟨Mv1, eMv1, h0⟩ := lt_out h0
  refine p_modi (ty := .int) K X 0 (by decide) (fun _ _ => rfl) (by decide +kernel) ⟨rfl, rfl⟩ eMv1 q1399 dX8_saveSnapshot_2 (fun H locs X => ?_)
  refine lv_aload_n hx hb dX8_saveSnapshot_5 rfl (lv_at hl 0 rfl) ?_
  refine g_modr K X 1 (by decide) (fun _ _ => rfl) q1400 dX8_saveSnapshot_6 ?_
  refine lv_iconst (v := 0) hx hb dX8_saveSnapshot_9 (by decide) ?_
  refine lv_aload_n hx hb dX8_saveSnapshot_10 rfl (lv_at hl 0 rfl) ?_
  refine g_modr K X 2 (by decide) (fun _ _ => rfl) q1401 dX8_saveSnapshot_11 ?_
  refine lv_iconst (v := 0) hx hb dX8_saveSnapshot_14 (by decide) ?_
  obtain ⟨x2, ex2, h0⟩ := ob_out h0
  obtain ⟨Mv3, eMv3, h0⟩ := lt_out h0
  have kx2 := m_X8_copies l D ca am n Mv1 xs 1 102 1 ⟨rfl, fun _ => rfl⟩ 0 2 102 2 ⟨rfl, fun _ => rfl⟩ 0 x2 ex2 H.size
  rw [← eMv3] at kx2
  refine w_callS0 K X wM_fstx kx2 hl.1 4 q1515 q1516 q97 q1517 hs_X8_copies ⟨⟨Nat.le_of_ble_eq_true rfl, Nat.le_of_ble_eq_true rfl⟩, rfl, rfl⟩ rfl rfl (Nat.le_of_ble_eq_true rfl) dX8_saveSnapshot_15 ⟨Nat.le_of_ble_eq_true rfl, Nat.le_of_ble_eq_true rfl⟩ rfl (fun H locs X => ?_)
  refine lv_aload_n hx hb dX8_saveSnapshot_18 rfl (lv_at hl 0 rfl) ?_
  refine g_modr K X 5 (by decide) (fun _ _ => rfl) q1404 dX8_saveSnapshot_19 ?_
  refine lv_iconst (v := 0) hx hb dX8_saveSnapshot_22 (by decide) ?_
  refine lv_aload_n hx hb dX8_saveSnapshot_23 rfl (lv_at hl 0 rfl) ?_
  refine g_modr K X 6 (by decide) (fun _ _ => rfl) q1405 dX8_saveSnapshot_24 ?_
  refine lv_iconst (v := 0) hx hb dX8_saveSnapshot_27 (by decide) ?_
  obtain ⟨x4, ex4, h0⟩ := ob_out h0
  obtain ⟨Mv5, eMv5, h0⟩ := lt_out h0
  have kx4 := m_X8_copiesLongs l D ca am n Mv3 xs 5 6 5 ⟨rfl, fun _ => rfl⟩ 0 6 6 6 ⟨rfl, fun _ => rfl⟩ 0 x4 ex4 H.size
  rw [← eMv5] at kx4
  refine w_callS0 K X wM_fstx kx4 hl.1 4 q1518 q1519 q97 q1520 hs_X8_copiesLongs ⟨⟨Nat.le_of_ble_eq_true rfl, Nat.le_of_ble_eq_true rfl⟩, rfl, rfl⟩ rfl rfl (Nat.le_of_ble_eq_true rfl) dX8_saveSnapshot_28 ⟨Nat.le_of_ble_eq_true rfl, Nat.le_of_ble_eq_true rfl⟩ rfl (fun H locs X => ?_)
  refine lv_aload_n hx hb dX8_saveSnapshot_31 rfl (lv_at hl 0 rfl) ?_
  refine lv_iconst (v := 1) hx hb dX8_saveSnapshot_32 (by decide) ?_
  obtain ⟨Mv6, eMv6, h0⟩ := lt_out h0
  refine p_modi (ty := .boolean) K X 10 (by decide) (fun _ _ => rfl) (by decide +kernel) ⟨rfl, rfl⟩ eMv6 q1409 dX8_saveSnapshot_33 (fun H locs X => ?_)
  have h0 := Option.some.inj h0
  subst h0
  subst hQ
  exact w_vret K hr0 X wM_fstx hsz dX8_saveSnapshot_36
-- X8_restoreSnapshot
def f_X8_restoreSnapshot (n : Nat) (M : RowS) : Option (Bool × RowS) :=
  lt (si M 0 0 0) fun Mv1 =>
  if (Mv1.1 0 10) = 0 then
    some (false, Mv1)
  else
    ob (f_X8_copies n Mv1 2 102 0 1 102 0) fun x3 =>
    lt (x3) fun Mv4 =>
    ob (f_X8_copiesLongs n Mv4 6 6 0 5 6 0) fun x5 =>
    lt (x5) fun Mv6 =>
    lt (si Mv6 0 9 0) fun Mv7 =>
    some (true, Mv7)
abbrev rm_X8_restoreSnapshot : Room := { frames := 1, cells := 0, slots := 0, locals := 24 }
set_option maxRecDepth 100000 in
set_option maxHeartbeats 4000000 in
theorem m_X8_restoreSnapshot (l : Launch) (D : va_G) (ca : Nat → ClassId) (am : Nat → Nat) (n : Nat) (M : RowS) (xs : va_W) (res : Bool) (M' : RowS) (h0 : f_X8_restoreSnapshot n M = some (res, M')) (sz : Nat) : Met l yX8_restoreSnapshot (ws_ yX8_restoreSnapshot cX8_restoreSnapshot 1 (some .boolean)) rm_X8_restoreSnapshot (PCw D ca (wM am ca M ++ xs) sz [.ref (am 0)]) (QMw D (wM am ca M ++ xs) (wM am ca (M') ++ xs) sz (some (.int (b2i res)))) 0 0 (AL (wM am ca M ++ xs) sz) := by
  refine met_of (by decide) (Nat.le_of_ble_eq_true rfl) (fun p e s m args below meth c K hr0 X hsz ls hl => ?_)
  have K : MC D ca p s m args meth c cX8_restoreSnapshot 1 RX8 := K
  have hx := K.1
  have hb := K.2.1
  have hl : lv_has ls 1 [(0, .ref (am 0))] := hl
  generalize hQ : MQ below _ args s 0 0 _ = Q
  unfold f_X8_restoreSnapshot at h0
  suffices Z : ∀ (H : Heap) (locs : List Loc) (X : RW D (wM am ca M ++ xs) s.heap H locs), W p l e rm_X8_restoreSnapshot s m args below meth c H locs 0 0 Q (F0 m 0 ls []) from Z _ _ X
  intro H locs X
  refine lv_aload_n hx hb dX8_restoreSnapshot_0 rfl (lv_at hl 0 rfl) ?_
  refine lv_iconst (v := 0) hx hb dX8_restoreSnapshot_1 (by decide) ?_
  obtain ⟨Mv1, eMv1, h0⟩ := lt_out h0
  refine p_modi (ty := .int) K X 0 (by decide) (fun _ _ => rfl) (by decide +kernel) ⟨rfl, rfl⟩ eMv1 q1399 dX8_restoreSnapshot_2 (fun H locs X => ?_)
  refine lv_aload_n hx hb dX8_restoreSnapshot_5 rfl (lv_at hl 0 rfl) ?_
  refine g_modi K X 10 (by decide) (fun _ _ => rfl) q1409 dX8_restoreSnapshot_6 ?_
  refine lv_if_ne (tgt := 14) hx hb dX8_restoreSnapshot_9 (by decide) (fun c2 => ?_) (fun c2 => ?_)
  · have h0 := if_f c2 h0
    refine lv_aload_n hx hb dX8_restoreSnapshot_14 rfl (lv_at hl 0 rfl) ?_
    refine g_modr K X 2 (by decide) (fun _ _ => rfl) q1401 dX8_restoreSnapshot_15 ?_
    refine lv_iconst (v := 0) hx hb dX8_restoreSnapshot_18 (by decide) ?_
    refine lv_aload_n hx hb dX8_restoreSnapshot_19 rfl (lv_at hl 0 rfl) ?_
    refine g_modr K X 1 (by decide) (fun _ _ => rfl) q1400 dX8_restoreSnapshot_20 ?_
    refine lv_iconst (v := 0) hx hb dX8_restoreSnapshot_23 (by decide) ?_
    obtain ⟨x3, ex3, h0⟩ := ob_out h0
    obtain ⟨Mv4, eMv4, h0⟩ := lt_out h0
    have kx3 := m_X8_copies l D ca am n Mv1 xs 2 102 2 ⟨rfl, fun _ => rfl⟩ 0 1 102 1 ⟨rfl, fun _ => rfl⟩ 0 x3 ex3 H.size
    rw [← eMv4] at kx3
    refine w_callS0 K X wM_fstx kx3 hl.1 4 q1515 q1516 q97 q1517 hs_X8_copies ⟨⟨Nat.le_of_ble_eq_true rfl, Nat.le_of_ble_eq_true rfl⟩, rfl, rfl⟩ rfl rfl (Nat.le_of_ble_eq_true rfl) dX8_restoreSnapshot_24 ⟨Nat.le_of_ble_eq_true rfl, Nat.le_of_ble_eq_true rfl⟩ rfl (fun H locs X => ?_)
    refine lv_aload_n hx hb dX8_restoreSnapshot_27 rfl (lv_at hl 0 rfl) ?_
    refine g_modr K X 6 (by decide) (fun _ _ => rfl) q1405 dX8_restoreSnapshot_28 ?_
    refine lv_iconst (v := 0) hx hb dX8_restoreSnapshot_31 (by decide) ?_
    refine lv_aload_n hx hb dX8_restoreSnapshot_32 rfl (lv_at hl 0 rfl) ?_
    refine g_modr K X 5 (by decide) (fun _ _ => rfl) q1404 dX8_restoreSnapshot_33 ?_
    refine lv_iconst (v := 0) hx hb dX8_restoreSnapshot_36 (by decide) ?_
    obtain ⟨x5, ex5, h0⟩ := ob_out h0
    obtain ⟨Mv6, eMv6, h0⟩ := lt_out h0
    have kx5 := m_X8_copiesLongs l D ca am n Mv4 xs 6 6 6 ⟨rfl, fun _ => rfl⟩ 0 5 6 5 ⟨rfl, fun _ => rfl⟩ 0 x5 ex5 H.size
    rw [← eMv6] at kx5
    refine w_callS0 K X wM_fstx kx5 hl.1 4 q1518 q1519 q97 q1520 hs_X8_copiesLongs ⟨⟨Nat.le_of_ble_eq_true rfl, Nat.le_of_ble_eq_true rfl⟩, rfl, rfl⟩ rfl rfl (Nat.le_of_ble_eq_true rfl) dX8_restoreSnapshot_37 ⟨Nat.le_of_ble_eq_true rfl, Nat.le_of_ble_eq_true rfl⟩ rfl (fun H locs X => ?_)
    refine lv_aload_n hx hb dX8_restoreSnapshot_40 rfl (lv_at hl 0 rfl) ?_
    refine lv_iconst (v := 0) hx hb dX8_restoreSnapshot_41 (by decide) ?_
    obtain ⟨Mv7, eMv7, h0⟩ := lt_out h0
    refine p_modi (ty := .int) K X 9 (by decide) (fun _ _ => rfl) (by decide +kernel) ⟨rfl, rfl⟩ eMv7 q1408 dX8_restoreSnapshot_42 (fun H locs X => ?_)
    refine lv_iconst (v := 1) hx hb dX8_restoreSnapshot_45 (by decide) ?_
    have h0 := Option.some.inj h0
    obtain ⟨q_0, q_1⟩ := Prod.mk.inj h0
    subst q_0
    subst q_1
    subst hQ
    refine w_int (y := b2i true) (by decide) ?_
    exact w_zret K hr0 X wM_fstx hsz (b2i_nar _) dX8_restoreSnapshot_46
  · have h0 := if_t c2 h0
    refine lv_iconst (v := 0) hx hb dX8_restoreSnapshot_12 (by decide) ?_
    have h0 := Option.some.inj h0
    obtain ⟨q_0, q_1⟩ := Prod.mk.inj h0
    subst q_0
    subst q_1
    subst hQ
    refine w_int (y := b2i false) (by decide) ?_
    exact w_zret K hr0 X wM_fstx hsz (b2i_nar _) dX8_restoreSnapshot_13
-- X8_writes
def f_X8_writes (M : RowS) (a1 : Int32) : Option RowS :=
  if 0 ≤ (M.1 0 22).toInt ∧ (M.1 0 22).toInt < 40 then
    lt (si M 21 (M.1 0 22).toNatClampNeg a1) fun Mv2 =>
    lt (si Mv2 0 22 ((Mv2.1 0 22) + 1)) fun Mv3 =>
    some Mv3
  else none
abbrev rm_X8_writes : Room := { frames := 0, cells := 0, slots := 0, locals := 0 }
set_option maxRecDepth 100000 in
set_option maxHeartbeats 4000000 in
theorem m_X8_writes (l : Launch) (D : va_G) (ca : Nat → ClassId) (am : Nat → Nat) (M : RowS) (xs : va_W) (a1 : Int32) (M' : RowS) (h0 : f_X8_writes M a1 = some M') (sz : Nat) : Met l yX8_writes (ws_ yX8_writes cX8_writes 2 none) rm_X8_writes (PCw D ca (wM am ca M ++ xs) sz [.ref (am 0), .int a1]) (QMw D (wM am ca M ++ xs) (wM am ca (M') ++ xs) sz none) 0 0 (AL (wM am ca M ++ xs) sz) := by
  refine met_of (by decide) (Nat.le_of_ble_eq_true rfl) (fun p e s m args below meth c K hr0 X hsz ls hl => ?_)
  have K : MC D ca p s m args meth c cX8_writes 2 RX8 := K
  have hx := K.1
  have hb := K.2.1
  have hl : lv_has ls 2 [(0, .ref (am 0)), (1, .int a1)] := hl
  generalize hQ : MQ below _ args s 0 0 _ = Q
  unfold f_X8_writes at h0
  suffices Z : ∀ (H : Heap) (locs : List Loc) (X : RW D (wM am ca M ++ xs) s.heap H locs), W p l e rm_X8_writes s m args below meth c H locs 0 0 Q (F0 m 0 ls []) from Z _ _ X
  intro H locs X
  refine lv_aload_n hx hb dX8_writes_0 rfl (lv_at hl 0 rfl) ?_
  refine g_modr K X 21 (by decide) (fun _ _ => rfl) q1420 dX8_writes_1 ?_
  refine lv_aload_n hx hb dX8_writes_4 rfl (lv_at hl 0 rfl) ?_
  refine g_modi K X 22 (by decide) (fun _ _ => rfl) q1421 dX8_writes_5 ?_
  refine lv_iload_n hx hb dX8_writes_8 rfl (lv_at hl 1 rfl) ?_
  obtain ⟨c1, h0⟩ := if_o h0
  obtain ⟨Mv2, eMv2, h0⟩ := lt_out h0
  refine s_modi K X 21 10 40 rfl (fun _ => rfl) (inb_vp c1) eMv2 dX8_writes_9 (fun H locs X => ?_)
  refine lv_aload_n hx hb dX8_writes_10 rfl (lv_at hl 0 rfl) ?_
  refine lv_dup hx hb dX8_writes_11 rfl ?_
  refine g_modi K X 22 (by decide) (fun _ _ => rfl) q1421 dX8_writes_12 ?_
  refine lv_iconst (v := 1) hx hb dX8_writes_15 (by decide) ?_
  refine lv_iadd hx hb dX8_writes_16 ?_
  obtain ⟨Mv3, eMv3, h0⟩ := lt_out h0
  refine p_modi (ty := .int) K X 22 (by decide) (fun _ _ => rfl) (by decide +kernel) ⟨rfl, rfl⟩ eMv3 q1421 dX8_writes_17 (fun H locs X => ?_)
  have h0 := Option.some.inj h0
  subst h0
  subst hQ
  exact w_vret K hr0 X wM_fstx hsz dX8_writes_20
-- X8_writesNumber
def b_X8_writesNumber_43  (M_43 : RowS) : Option RowS :=
  some M_43
def l_X8_writesNumber_18 (a1 : Int32) (z18_2 : Int32) (Mz_18 : RowS) : Option ((Int32 × RowS) ⊕ RowS) :=
  if z18_2 ≤ 0 then
    some (.inr Mz_18)
  else
    if ¬ z18_2 = 0 then
      ob (f_X8_writes Mz_18 (48 + ((a1 / z18_2) - (a1 / z18_2) / 10 * 10))) fun x5 =>
      lt (x5) fun Mv6 =>
      lt (z18_2 / 10) fun x7 =>
      some (.inl (x7, Mv6))
    else none
def b_X8_writesNumber_18 (n : Nat) (a1 : Int32) (y18_l2 : Int32) (M_18 : RowS) : Option RowS :=
  ob (wloop (fun t => l_X8_writesNumber_18 a1 t.1 t.2) n (y18_l2, M_18)) (fun t => b_X8_writesNumber_43 t)
def l_X8_writesNumber_2 (a1 : Int32) (z2_2 : Int32) : Option (Int32 ⊕ Int32) :=
  if ¬ z2_2 = 0 then
    if (a1 / z2_2) ≤ 9 then
      some (.inr z2_2)
    else
      lt (z2_2 * 10) fun x8 =>
      some (.inl x8)
  else none
def f_X8_writesNumber (n : Nat) (M : RowS) (a1 : Int32) : Option RowS :=
  ob (wloop (fun t => l_X8_writesNumber_2 a1 t) n 1) (fun t => b_X8_writesNumber_18 n a1 t M)
abbrev rm_X8_writesNumber : Room := { frames := 1, cells := 0, slots := 0, locals := 21 }
set_option maxRecDepth 100000 in
set_option maxHeartbeats 4000000 in
theorem m_X8_writesNumber (l : Launch) (D : va_G) (ca : Nat → ClassId) (am : Nat → Nat) (n : Nat) (M : RowS) (xs : va_W) (a1 : Int32) (M' : RowS) (h0 : f_X8_writesNumber n M a1 = some M') (sz : Nat) : Met l yX8_writesNumber (ws_ yX8_writesNumber cX8_writesNumber 3 none) rm_X8_writesNumber (PCw D ca (wM am ca M ++ xs) sz [.ref (am 0), .int a1]) (QMw D (wM am ca M ++ xs) (wM am ca (M') ++ xs) sz none) 0 0 (AL (wM am ca M ++ xs) sz) := by
  refine met_of (by decide) (Nat.le_of_ble_eq_true rfl) (fun p e s m args below meth c K hr0 X hsz ls hl => ?_)
  have K : MC D ca p s m args meth c cX8_writesNumber 3 RX8 := K
  have hx := K.1
  have hb := K.2.1
  have hl : lv_has ls 3 [(0, .ref (am 0)), (1, .int a1)] := hl
  generalize hQ : MQ below _ args s 0 0 _ = Q
  unfold f_X8_writesNumber at h0
  suffices Z : ∀ (H : Heap) (locs : List Loc) (X : RW D (wM am ca M ++ xs) s.heap H locs), W p l e rm_X8_writesNumber s m args below meth c H locs 0 0 Q (F0 m 0 ls []) from Z _ _ X
  intro H locs X
  have J43 : ∀ (M_43 : RowS) (H : Heap) (locs : List Loc) (X : RW D (wM am ca M_43 ++ xs) s.heap H locs) (ls : Array Slot) (hl : lv_has ls 3 []) (h0 : b_X8_writesNumber_43 M_43 = some M'), W p l e rm_X8_writesNumber s m args below meth c H locs 0 0 Q (F0 m 43 ls []) := by
    intro M_43 H locs X ls hl h0
    unfold b_X8_writesNumber_43 at h0
    have h0 := Option.some.inj h0
    subst h0
    subst hQ
    exact w_vret K hr0 X wM_fstx hsz dX8_writesNumber_43
  have J18 : ∀ (y18_l2 : Int32) (M_18 : RowS) (H : Heap) (locs : List Loc) (X : RW D (wM am ca M_18 ++ xs) s.heap H locs) (ls : Array Slot) (hl : lv_has ls 3 [(0, .ref (am 0)), (1, .int a1), (2, .int y18_l2)]) (h0 : b_X8_writesNumber_18 n a1 y18_l2 M_18 = some M'), W p l e rm_X8_writesNumber s m args below meth c H locs 0 0 Q (F0 m 18 ls []) := by
    intro y18_l2 M_18 H locs X ls hl h0
    unfold b_X8_writesNumber_18 at h0
    obtain ⟨e_1, he1, h0⟩ := ob_out h0
    have K18 : ∀ (k : Nat) (z18_2 : Int32) (Mz_18 : RowS) (H : Heap) (locs : List Loc) (X : RW D (wM am ca Mz_18 ++ xs) s.heap H locs) (ls : Array Slot) (hl : lv_has ls 3 [(0, .ref (am 0)), (1, .int a1), (2, .int z18_2)]) (hw : wloop (fun t => l_X8_writesNumber_18 a1 t.1 t.2) k (z18_2, Mz_18) = some e_1), W p l e rm_X8_writesNumber s m args below meth c H locs 0 0 Q (F0 m 18 ls []) := by
      intro k
      induction k with
      | zero => intro z18_2 Mz_18 H locs X ls hl hw; exact (wloop_0 hw).elim
      | succ k ih1 =>
        intro z18_2 Mz_18 H locs X ls hl hw
        obtain ⟨x_1, h1, hx1⟩ := wloop_out hw
        have h1 : l_X8_writesNumber_18 a1 z18_2 Mz_18 = some x_1 := h1
        unfold l_X8_writesNumber_18 at h1
        refine lv_iload_n hx hb dX8_writesNumber_18 rfl (lv_at hl 2 rfl) ?_
        refine lv_if_le (tgt := 43) hx hb dX8_writesNumber_19 (by decide) (fun c3 => ?_) (fun c3 => ?_)
        · have h1 := if_t c3 h1
          have q1 := wl_r h1 hx1
          exact J43 Mz_18 H locs X ls (lv_sub hl [] rfl) (by rw [q1] at h0; exact h0)
        · have h1 := if_f c3 h1
          refine lv_aload_n hx hb dX8_writesNumber_22 rfl (lv_at hl 0 rfl) ?_
          refine lv_bipush (v := 48) hx hb dX8_writesNumber_23 (by decide) ?_
          refine lv_iload_n hx hb dX8_writesNumber_25 rfl (lv_at hl 1 rfl) ?_
          refine lv_iload_n hx hb dX8_writesNumber_26 rfl (lv_at hl 2 rfl) ?_
          obtain ⟨c4, h1⟩ := if_o h1
          refine lv_idiv hx hb dX8_writesNumber_27 c4 ?_
          refine lv_bipush (v := 10) hx hb dX8_writesNumber_28 (by decide) ?_
          refine lv_irem hx hb dX8_writesNumber_30 (by decide) ?_
          refine lv_iadd hx hb dX8_writesNumber_31 ?_
          obtain ⟨x5, ex5, h1⟩ := ob_out h1
          obtain ⟨Mv6, eMv6, h1⟩ := lt_out h1
          have kx5 := m_X8_writes l D ca am Mz_18 xs (48 + ((a1 / z18_2) - (a1 / z18_2) / 10 * 10)) x5 ex5 H.size
          rw [← eMv6] at kx5
          refine w_callV0 K X wM_fstx kx5 hl.1 1 q1905 q1907 q72 q97 q1908 hv_X8_writes ⟨⟨Nat.le_of_ble_eq_true rfl, Nat.le_of_ble_eq_true rfl⟩, rfl, rfl⟩ pl_modo rfl rfl rfl rfl (Nat.le_of_ble_eq_true rfl) dX8_writesNumber_32 ⟨Nat.le_of_ble_eq_true rfl, Nat.le_of_ble_eq_true rfl⟩ rfl (fun H locs X => ?_)
          refine lv_iload_n hx hb dX8_writesNumber_35 rfl (lv_at hl 2 rfl) ?_
          refine lv_bipush (v := 10) hx hb dX8_writesNumber_36 (by decide) ?_
          refine lv_idiv hx hb dX8_writesNumber_38 (by decide) ?_
          obtain ⟨x7, ex7, h1⟩ := lt_out h1
          refine w_int ex7 ?_
          refine lv_istore_n (lv' := [(2, .int x7), (0, .ref (am 0)), (1, .int a1)]) hx hb dX8_writesNumber_39 rfl hl (by decide) rfl (fun ls hl => ?_)
          refine lv_goto (tgt := 18) hx hb dX8_writesNumber_40 (by decide) ?_
          exact ih1 x7 Mv6 H locs X ls (lv_sub hl [1, 2, 0] rfl) (wl_l h1 hx1)
    exact K18 n y18_l2 M_18 H locs X ls (lv_sub hl [0, 1, 2] rfl) he1
  refine lv_iconst (v := 1) hx hb dX8_writesNumber_0 (by decide) ?_
  refine lv_istore_n (lv' := [(2, .int 1), (0, .ref (am 0)), (1, .int a1)]) hx hb dX8_writesNumber_1 rfl hl (by decide) rfl (fun ls hl => ?_)
  obtain ⟨e_1, he1, h0⟩ := ob_out h0
  have K2 : ∀ (k : Nat) (z2_2 : Int32) (H : Heap) (locs : List Loc) (X : RW D (wM am ca M ++ xs) s.heap H locs) (ls : Array Slot) (hl : lv_has ls 3 [(0, .ref (am 0)), (1, .int a1), (2, .int z2_2)]) (hw : wloop (fun t => l_X8_writesNumber_2 a1 t) k z2_2 = some e_1), W p l e rm_X8_writesNumber s m args below meth c H locs 0 0 Q (F0 m 2 ls []) := by
    intro k
    induction k with
    | zero => intro z2_2 H locs X ls hl hw; exact (wloop_0 hw).elim
    | succ k ih1 =>
      intro z2_2 H locs X ls hl hw
      obtain ⟨x_1, h1, hx1⟩ := wloop_out hw
      have h1 : l_X8_writesNumber_2 a1 z2_2 = some x_1 := h1
      unfold l_X8_writesNumber_2 at h1
      refine lv_iload_n hx hb dX8_writesNumber_2 rfl (lv_at hl 1 rfl) ?_
      refine lv_iload_n hx hb dX8_writesNumber_3 rfl (lv_at hl 2 rfl) ?_
      obtain ⟨c1, h1⟩ := if_o h1
      refine lv_idiv hx hb dX8_writesNumber_4 c1 ?_
      refine lv_bipush (v := 9) hx hb dX8_writesNumber_5 (by decide) ?_
      refine lv_icmp_le (tgt := 18) hx hb dX8_writesNumber_7 (by decide) (fun c2 => ?_) (fun c2 => ?_)
      · have h1 := if_t c2 h1
        have q1 := wl_r h1 hx1
        exact J18 z2_2 M H locs X ls (lv_sub hl [0, 1, 2] rfl) (by rw [q1] at h0; exact h0)
      · have h1 := if_f c2 h1
        refine lv_iload_n hx hb dX8_writesNumber_10 rfl (lv_at hl 2 rfl) ?_
        refine lv_bipush (v := 10) hx hb dX8_writesNumber_11 (by decide) ?_
        refine lv_imul hx hb dX8_writesNumber_13 ?_
        obtain ⟨x8, ex8, h1⟩ := lt_out h1
        refine w_int ex8 ?_
        refine lv_istore_n (lv' := [(2, .int x8), (0, .ref (am 0)), (1, .int a1)]) hx hb dX8_writesNumber_14 rfl hl (by decide) rfl (fun ls hl => ?_)
        refine lv_goto (tgt := 2) hx hb dX8_writesNumber_15 (by decide) ?_
        exact ih1 x8 H locs X ls (lv_sub hl [1, 2, 0] rfl) (wl_l h1 hx1)
  exact K2 n 1 H locs X ls (lv_sub hl [1, 2, 0] rfl) he1
-- X8_writesWord
def b_X8_writesWord_51  (M_51 : RowS) : Option RowS :=
  some M_51
def l_X8_writesWord_21 (a1 : Int64) (z21_3 : Int64) (Mz_21 : RowS) : Option ((Int64 × RowS) ⊕ RowS) :=
  if z21_3 ≤ 0 then
    some (.inr Mz_21)
  else
    if ¬ z21_3 = 0 then
      ob (f_X8_writes Mz_21 ((((a1 / z21_3) - (a1 / z21_3) / 27 * 27).toInt32) + 96)) fun x5 =>
      lt (x5) fun Mv6 =>
      lt (z21_3 / 27) fun x7 =>
      some (.inl (x7, Mv6))
    else none
def b_X8_writesWord_21 (n : Nat) (a1 : Int64) (y21_l3 : Int64) (M_21 : RowS) : Option RowS :=
  ob (wloop (fun t => l_X8_writesWord_21 a1 t.1 t.2) n (y21_l3, M_21)) (fun t => b_X8_writesWord_51 t)
def l_X8_writesWord_2 (a1 : Int64) (z2_3 : Int64) : Option (Int64 ⊕ Int64) :=
  if ¬ z2_3 = 0 then
    if (a1 / z2_3) ≤ 26 then
      some (.inr z2_3)
    else
      lt (z2_3 * 27) fun x8 =>
      some (.inl x8)
  else none
def f_X8_writesWord (n : Nat) (M : RowS) (a1 : Int64) : Option RowS :=
  ob (wloop (fun t => l_X8_writesWord_2 a1 t) n 1) (fun t => b_X8_writesWord_21 n a1 t M)
abbrev rm_X8_writesWord : Room := { frames := 1, cells := 0, slots := 0, locals := 21 }
set_option maxRecDepth 100000 in
set_option maxHeartbeats 4000000 in
theorem m_X8_writesWord (l : Launch) (D : va_G) (ca : Nat → ClassId) (am : Nat → Nat) (n : Nat) (M : RowS) (xs : va_W) (a1 : Int64) (M' : RowS) (h0 : f_X8_writesWord n M a1 = some M') (sz : Nat) : Met l yX8_writesWord (ws_ yX8_writesWord cX8_writesWord 5 none) rm_X8_writesWord (PCw D ca (wM am ca M ++ xs) sz [.ref (am 0), .long a1]) (QMw D (wM am ca M ++ xs) (wM am ca (M') ++ xs) sz none) 0 0 (AL (wM am ca M ++ xs) sz) := by
  refine met_of (by decide) (Nat.le_of_ble_eq_true rfl) (fun p e s m args below meth c K hr0 X hsz ls hl => ?_)
  have K : MC D ca p s m args meth c cX8_writesWord 5 RX8 := K
  have hx := K.1
  have hb := K.2.1
  have hl : lv_has ls 5 [(0, .ref (am 0)), (1, .long a1)] := hl
  generalize hQ : MQ below _ args s 0 0 _ = Q
  unfold f_X8_writesWord at h0
  suffices Z : ∀ (H : Heap) (locs : List Loc) (X : RW D (wM am ca M ++ xs) s.heap H locs), W p l e rm_X8_writesWord s m args below meth c H locs 0 0 Q (F0 m 0 ls []) from Z _ _ X
  intro H locs X
  have J51 : ∀ (M_51 : RowS) (H : Heap) (locs : List Loc) (X : RW D (wM am ca M_51 ++ xs) s.heap H locs) (ls : Array Slot) (hl : lv_has ls 5 []) (h0 : b_X8_writesWord_51 M_51 = some M'), W p l e rm_X8_writesWord s m args below meth c H locs 0 0 Q (F0 m 51 ls []) := by
    intro M_51 H locs X ls hl h0
    unfold b_X8_writesWord_51 at h0
    have h0 := Option.some.inj h0
    subst h0
    subst hQ
    exact w_vret K hr0 X wM_fstx hsz dX8_writesWord_51
  have J21 : ∀ (y21_l3 : Int64) (M_21 : RowS) (H : Heap) (locs : List Loc) (X : RW D (wM am ca M_21 ++ xs) s.heap H locs) (ls : Array Slot) (hl : lv_has ls 5 [(0, .ref (am 0)), (1, .long a1), (3, .long y21_l3)]) (h0 : b_X8_writesWord_21 n a1 y21_l3 M_21 = some M'), W p l e rm_X8_writesWord s m args below meth c H locs 0 0 Q (F0 m 21 ls []) := by
    intro y21_l3 M_21 H locs X ls hl h0
    unfold b_X8_writesWord_21 at h0
    obtain ⟨e_1, he1, h0⟩ := ob_out h0
    have K21 : ∀ (k : Nat) (z21_3 : Int64) (Mz_21 : RowS) (H : Heap) (locs : List Loc) (X : RW D (wM am ca Mz_21 ++ xs) s.heap H locs) (ls : Array Slot) (hl : lv_has ls 5 [(0, .ref (am 0)), (1, .long a1), (3, .long z21_3)]) (hw : wloop (fun t => l_X8_writesWord_21 a1 t.1 t.2) k (z21_3, Mz_21) = some e_1), W p l e rm_X8_writesWord s m args below meth c H locs 0 0 Q (F0 m 21 ls []) := by
      intro k
      induction k with
      | zero => intro z21_3 Mz_21 H locs X ls hl hw; exact (wloop_0 hw).elim
      | succ k ih1 =>
        intro z21_3 Mz_21 H locs X ls hl hw
        obtain ⟨x_1, h1, hx1⟩ := wloop_out hw
        have h1 : l_X8_writesWord_21 a1 z21_3 Mz_21 = some x_1 := h1
        unfold l_X8_writesWord_21 at h1
        refine lv_lload_n hx hb dX8_writesWord_21 rfl (lv_at hl 2 rfl) ?_
        refine lv_lconst (v := 0) hx hb dX8_writesWord_22 (by decide) ?_
        refine w_ble (tgt := 51) K dX8_writesWord_23 dX8_writesWord_24 (by decide) (fun c3 => ?_) (fun c3 => ?_)
        · have h1 := if_t c3 h1
          have q1 := wl_r h1 hx1
          exact J51 Mz_21 H locs X ls (lv_sub hl [] rfl) (by rw [q1] at h0; exact h0)
        · have h1 := if_f c3 h1
          refine lv_aload_n hx hb dX8_writesWord_27 rfl (lv_at hl 0 rfl) ?_
          refine lv_lload_n hx hb dX8_writesWord_28 rfl (lv_at hl 1 rfl) ?_
          refine lv_lload_n hx hb dX8_writesWord_29 rfl (lv_at hl 2 rfl) ?_
          obtain ⟨c4, h1⟩ := if_o h1
          refine lv_ldiv hx hb dX8_writesWord_30 c4 ?_
          refine lv_ldc2 hx hb K.2.2.2.1 (K.2.2.2.2.1 _ q1540) dX8_writesWord_31 ?_
          refine lv_lrem hx hb dX8_writesWord_34 (by decide) ?_
          refine lv_l2i hx hb dX8_writesWord_35 rfl ?_
          refine lv_bipush (v := 96) hx hb dX8_writesWord_36 (by decide) ?_
          refine lv_iadd hx hb dX8_writesWord_38 ?_
          obtain ⟨x5, ex5, h1⟩ := ob_out h1
          obtain ⟨Mv6, eMv6, h1⟩ := lt_out h1
          have kx5 := m_X8_writes l D ca am Mz_21 xs ((((a1 / z21_3) - (a1 / z21_3) / 27 * 27).toInt32) + 96) x5 ex5 H.size
          rw [← eMv6] at kx5
          refine w_callV0 K X wM_fstx kx5 hl.1 1 q1905 q1907 q72 q97 q1908 hv_X8_writes ⟨⟨Nat.le_of_ble_eq_true rfl, Nat.le_of_ble_eq_true rfl⟩, rfl, rfl⟩ pl_modo rfl rfl rfl rfl (Nat.le_of_ble_eq_true rfl) dX8_writesWord_39 ⟨Nat.le_of_ble_eq_true rfl, Nat.le_of_ble_eq_true rfl⟩ rfl (fun H locs X => ?_)
          refine lv_lload_n hx hb dX8_writesWord_42 rfl (lv_at hl 2 rfl) ?_
          refine lv_ldc2 hx hb K.2.2.2.1 (K.2.2.2.2.1 _ q1540) dX8_writesWord_43 ?_
          refine lv_ldiv hx hb dX8_writesWord_46 (by decide) ?_
          obtain ⟨x7, ex7, h1⟩ := lt_out h1
          refine w_long ex7 ?_
          refine lv_lstore_n (lv' := [(3, .long x7), (0, .ref (am 0)), (1, .long a1)]) hx hb dX8_writesWord_47 rfl hl (by decide) rfl (fun ls hl => ?_)
          refine lv_goto (tgt := 21) hx hb dX8_writesWord_48 (by decide) ?_
          exact ih1 x7 Mv6 H locs X ls (lv_sub hl [1, 2, 0] rfl) (wl_l h1 hx1)
    exact K21 n y21_l3 M_21 H locs X ls (lv_sub hl [0, 1, 2] rfl) he1
  refine lv_lconst (v := 1) hx hb dX8_writesWord_0 (by decide) ?_
  refine lv_lstore_n (lv' := [(3, .long 1), (0, .ref (am 0)), (1, .long a1)]) hx hb dX8_writesWord_1 rfl hl (by decide) rfl (fun ls hl => ?_)
  obtain ⟨e_1, he1, h0⟩ := ob_out h0
  have K2 : ∀ (k : Nat) (z2_3 : Int64) (H : Heap) (locs : List Loc) (X : RW D (wM am ca M ++ xs) s.heap H locs) (ls : Array Slot) (hl : lv_has ls 5 [(0, .ref (am 0)), (1, .long a1), (3, .long z2_3)]) (hw : wloop (fun t => l_X8_writesWord_2 a1 t) k z2_3 = some e_1), W p l e rm_X8_writesWord s m args below meth c H locs 0 0 Q (F0 m 2 ls []) := by
    intro k
    induction k with
    | zero => intro z2_3 H locs X ls hl hw; exact (wloop_0 hw).elim
    | succ k ih1 =>
      intro z2_3 H locs X ls hl hw
      obtain ⟨x_1, h1, hx1⟩ := wloop_out hw
      have h1 : l_X8_writesWord_2 a1 z2_3 = some x_1 := h1
      unfold l_X8_writesWord_2 at h1
      refine lv_lload_n hx hb dX8_writesWord_2 rfl (lv_at hl 1 rfl) ?_
      refine lv_lload_n hx hb dX8_writesWord_3 rfl (lv_at hl 2 rfl) ?_
      obtain ⟨c1, h1⟩ := if_o h1
      refine lv_ldiv hx hb dX8_writesWord_4 c1 ?_
      refine lv_ldc2 hx hb K.2.2.2.1 (K.2.2.2.2.1 _ q1919) dX8_writesWord_5 ?_
      refine w_ble (tgt := 21) K dX8_writesWord_8 dX8_writesWord_9 (by decide) (fun c2 => ?_) (fun c2 => ?_)
      · have h1 := if_t c2 h1
        have q1 := wl_r h1 hx1
        exact J21 z2_3 M H locs X ls (lv_sub hl [0, 1, 2] rfl) (by rw [q1] at h0; exact h0)
      · have h1 := if_f c2 h1
        refine lv_lload_n hx hb dX8_writesWord_12 rfl (lv_at hl 2 rfl) ?_
        refine lv_ldc2 hx hb K.2.2.2.1 (K.2.2.2.2.1 _ q1540) dX8_writesWord_13 ?_
        refine lv_lmul hx hb dX8_writesWord_16 ?_
        obtain ⟨x8, ex8, h1⟩ := lt_out h1
        refine w_long ex8 ?_
        refine lv_lstore_n (lv' := [(3, .long x8), (0, .ref (am 0)), (1, .long a1)]) hx hb dX8_writesWord_17 rfl hl (by decide) rfl (fun ls hl => ?_)
        refine lv_goto (tgt := 2) hx hb dX8_writesWord_18 (by decide) ?_
        exact ih1 x8 H locs X ls (lv_sub hl [1, 2, 0] rfl) (wl_l h1 hx1)
  exact K2 n 1 H locs X ls (lv_sub hl [1, 2, 0] rfl) he1
-- X8_writesSigned
def b_X8_writesSigned_10 (n : Nat) (a1 : Int32) (M_10 : RowS) : Option RowS :=
  lt (f_X8_off0 a1) fun x2 =>
  ob (f_X8_writesNumber n M_10 x2) fun x3 =>
  lt (x3) fun Mv4 =>
  some Mv4
def f_X8_writesSigned (n : Nat) (M : RowS) (a1 : Int32) : Option RowS :=
  if 0 ≤ a1 then
    b_X8_writesSigned_10 n a1 M
  else
    ob (f_X8_writes M 45) fun x5 =>
    lt (x5) fun Mv6 =>
    b_X8_writesSigned_10 n a1 Mv6
abbrev rm_X8_writesSigned : Room := { frames := 2, cells := 0, slots := 0, locals := 43 }
set_option maxRecDepth 100000 in
set_option maxHeartbeats 4000000 in
theorem m_X8_writesSigned (l : Launch) (D : va_G) (ca : Nat → ClassId) (am : Nat → Nat) (n : Nat) (M : RowS) (xs : va_W) (a1 : Int32) (M' : RowS) (h0 : f_X8_writesSigned n M a1 = some M') (sz : Nat) : Met l yX8_writesSigned (ws_ yX8_writesSigned cX8_writesSigned 2 none) rm_X8_writesSigned (PCw D ca (wM am ca M ++ xs) sz [.ref (am 0), .int a1]) (QMw D (wM am ca M ++ xs) (wM am ca (M') ++ xs) sz none) 0 0 (AL (wM am ca M ++ xs) sz) := by
  refine met_of (by decide) (Nat.le_of_ble_eq_true rfl) (fun p e s m args below meth c K hr0 X hsz ls hl => ?_)
  have K : MC D ca p s m args meth c cX8_writesSigned 2 RX8 := K
  have hx := K.1
  have hb := K.2.1
  have hl : lv_has ls 2 [(0, .ref (am 0)), (1, .int a1)] := hl
  generalize hQ : MQ below _ args s 0 0 _ = Q
  unfold f_X8_writesSigned at h0
  suffices Z : ∀ (H : Heap) (locs : List Loc) (X : RW D (wM am ca M ++ xs) s.heap H locs), W p l e rm_X8_writesSigned s m args below meth c H locs 0 0 Q (F0 m 0 ls []) from Z _ _ X
  intro H locs X
  have J10 : ∀ (M_10 : RowS) (H : Heap) (locs : List Loc) (X : RW D (wM am ca M_10 ++ xs) s.heap H locs) (ls : Array Slot) (hl : lv_has ls 2 [(0, .ref (am 0)), (1, .int a1)]) (h0 : b_X8_writesSigned_10 n a1 M_10 = some M'), W p l e rm_X8_writesSigned s m args below meth c H locs 0 0 Q (F0 m 10 ls []) := by
    intro M_10 H locs X ls hl h0
    unfold b_X8_writesSigned_10 at h0
    refine lv_aload_n hx hb dX8_writesSigned_10 rfl (lv_at hl 0 rfl) ?_
    refine lv_iload_n hx hb dX8_writesSigned_11 rfl (lv_at hl 1 rfl) ?_
    obtain ⟨x2, ex2, h0⟩ := lt_out h0
    have kx2 := m_X8_off0 l D ca (wM am ca M_10 ++ xs) a1 x2 ex2.symm H.size
    refine w_callS0 K X wM_fstx kx2 hl.1 1 q1776 q1777 q97 q1778 hs_X8_off0 ⟨⟨Nat.le_of_ble_eq_true rfl, Nat.le_of_ble_eq_true rfl⟩, rfl, rfl⟩ rfl rfl (Nat.le_of_ble_eq_true rfl) dX8_writesSigned_12 ⟨Nat.le_of_ble_eq_true rfl, Nat.le_of_ble_eq_true rfl⟩ rfl (fun H locs X => ?_)
    obtain ⟨x3, ex3, h0⟩ := ob_out h0
    obtain ⟨Mv4, eMv4, h0⟩ := lt_out h0
    have kx3 := m_X8_writesNumber l D ca am n M_10 xs x2 x3 ex3 H.size
    rw [← eMv4] at kx3
    refine w_callV0 K X wM_fstx kx3 hl.1 1 q1901 q1903 q71 q97 q1904 hv_X8_writesNumber ⟨⟨Nat.le_of_ble_eq_true rfl, Nat.le_of_ble_eq_true rfl⟩, rfl, rfl⟩ pl_modo rfl rfl rfl rfl (Nat.le_of_ble_eq_true rfl) dX8_writesSigned_15 ⟨Nat.le_of_ble_eq_true rfl, Nat.le_of_ble_eq_true rfl⟩ rfl (fun H locs X => ?_)
    have h0 := Option.some.inj h0
    subst h0
    subst hQ
    exact w_vret K hr0 X wM_fstx hsz dX8_writesSigned_18
  refine lv_iload_n hx hb dX8_writesSigned_0 rfl (lv_at hl 1 rfl) ?_
  refine lv_if_ge (tgt := 10) hx hb dX8_writesSigned_1 (by decide) (fun c1 => ?_) (fun c1 => ?_)
  · have h0 := if_t c1 h0
    exact J10 M H locs X ls (lv_sub hl [0, 1] rfl) h0
  · have h0 := if_f c1 h0
    refine lv_aload_n hx hb dX8_writesSigned_4 rfl (lv_at hl 0 rfl) ?_
    refine lv_bipush (v := 45) hx hb dX8_writesSigned_5 (by decide) ?_
    obtain ⟨x5, ex5, h0⟩ := ob_out h0
    obtain ⟨Mv6, eMv6, h0⟩ := lt_out h0
    have kx5 := m_X8_writes l D ca am M xs 45 x5 ex5 H.size
    rw [← eMv6] at kx5
    refine w_callV0 K X wM_fstx kx5 hl.1 1 q1905 q1907 q72 q97 q1908 hv_X8_writes ⟨⟨Nat.le_of_ble_eq_true rfl, Nat.le_of_ble_eq_true rfl⟩, rfl, rfl⟩ pl_modo rfl rfl rfl rfl (Nat.le_of_ble_eq_true rfl) dX8_writesSigned_7 ⟨Nat.le_of_ble_eq_true rfl, Nat.le_of_ble_eq_true rfl⟩ rfl (fun H locs X => ?_)
    exact J10 Mv6 H locs X ls (lv_sub hl [0, 1] rfl) h0
-- X8_format
def b_X8_format_114 (n : Nat) (y114_s1 : Int64) (M_114 : RowS) : Option (Int32 × RowS) :=
  ob (f_X8_writesWord n M_114 y114_s1) fun x26 =>
  lt (x26) fun Mv27 =>
  some ((Mv27.1 0 22), Mv27)
def f_X8_format (n : Nat) (M : RowS) (a1 : Int32) : Option (Int32 × RowS) :=
  lt (si M 0 0 0) fun Mv1 =>
  ob (f_X8_isTube Mv1 a1) fun x2 =>
  lt (f_X8_fails Mv1 (b2i x2) 1) fun x3 =>
  lt (x3.2) fun Mv4 =>
  if x3.1 = true then
    some (0, Mv4)
  else
    lt (si Mv4 0 22 0) fun Mv6 =>
    ob (f_X8_of Mv6 a1 0) fun x7 =>
    ob (f_X8_writesNumber n Mv6 x7) fun x8 =>
    lt (x8) fun Mv9 =>
    ob (f_X8_writes Mv9 47) fun x10 =>
    lt (x10) fun Mv11 =>
    ob (f_X8_of Mv11 a1 1) fun x12 =>
    ob (f_X8_writesNumber n Mv11 x12) fun x13 =>
    lt (x13) fun Mv14 =>
    ob (f_X8_writes Mv14 32) fun x15 =>
    lt (x15) fun Mv16 =>
    ob (f_X8_of Mv16 a1 3) fun x17 =>
    ob (f_X8_writesNumber n Mv16 x17) fun x18 =>
    lt (x18) fun Mv19 =>
    ob (f_X8_writes Mv19 32) fun x20 =>
    lt (x20) fun Mv21 =>
    ob (f_X8_isWhole Mv21 a1) fun x22 =>
    if x22 = true then
      ob (f_X8_readingOf n Mv21 a1) fun x28 =>
      ob (f_X8_writesSigned n Mv21 x28) fun x29 =>
      lt (x29) fun Mv30 =>
      some ((Mv30.1 0 22), Mv30)
    else
      ob (f_X8_of Mv21 a1 6) fun x24 =>
      if x24 = 1 then
        b_X8_format_114 n 283856701 Mv21
      else
        b_X8_format_114 n 1310648 Mv21
abbrev rm_X8_format : Room := { frames := 9, cells := 0, slots := 0, locals := 211 }
set_option maxRecDepth 100000 in
set_option maxHeartbeats 4000000 in
theorem m_X8_format (l : Launch) (D : va_G) (ca : Nat → ClassId) (am : Nat → Nat) (n : Nat) (M : RowS) (xs : va_W) (a1 : Int32) (res : Int32) (M' : RowS) (h0 : f_X8_format n M a1 = some (res, M')) (sz : Nat) : Met l yX8_format (ws_ yX8_format cX8_format 2 (some .int)) rm_X8_format (PCw D ca (wM am ca M ++ xs) sz [.ref (am 0), .int a1]) (QMw D (wM am ca M ++ xs) (wM am ca (M') ++ xs) sz (some (.int res))) 0 0 (AL (wM am ca M ++ xs) sz) := by
  refine met_of (by decide) (Nat.le_of_ble_eq_true rfl) (fun p e s m args below meth c K hr0 X hsz ls hl => ?_)
  have K : MC D ca p s m args meth c cX8_format 2 RX8 := K
  have hx := K.1
  have hb := K.2.1
  have hl : lv_has ls 2 [(0, .ref (am 0)), (1, .int a1)] := hl
  generalize hQ : MQ below _ args s 0 0 _ = Q
  unfold f_X8_format at h0
  suffices Z : ∀ (H : Heap) (locs : List Loc) (X : RW D (wM am ca M ++ xs) s.heap H locs), W p l e rm_X8_format s m args below meth c H locs 0 0 Q (F0 m 0 ls []) from Z _ _ X
  intro H locs X
  have J114 : ∀ (y114_s1 : Int64) (M_114 : RowS) (H : Heap) (locs : List Loc) (X : RW D (wM am ca M_114 ++ xs) s.heap H locs) (ls : Array Slot) (hl : lv_has ls 2 [(0, .ref (am 0))]) (h0 : b_X8_format_114 n y114_s1 M_114 = some (res, M')), W p l e rm_X8_format s m args below meth c H locs 0 0 Q (F0 m 114 ls [.long y114_s1, .ref (am 0)]) := by
    intro y114_s1 M_114 H locs X ls hl h0
    unfold b_X8_format_114 at h0
    obtain ⟨x26, ex26, h0⟩ := ob_out h0
    obtain ⟨Mv27, eMv27, h0⟩ := lt_out h0
    have kx26 := m_X8_writesWord l D ca am n M_114 xs y114_s1 x26 ex26 H.size
    rw [← eMv27] at kx26
    refine w_callV0 K X wM_fstx kx26 hl.1 1 q1915 q1917 q74 q97 q1918 hv_X8_writesWord ⟨⟨Nat.le_of_ble_eq_true rfl, Nat.le_of_ble_eq_true rfl⟩, rfl, rfl⟩ pl_modo rfl rfl rfl rfl (Nat.le_of_ble_eq_true rfl) dX8_format_114 ⟨Nat.le_of_ble_eq_true rfl, Nat.le_of_ble_eq_true rfl⟩ rfl (fun H locs X => ?_)
    refine lv_aload_n hx hb dX8_format_117 rfl (lv_at hl 0 rfl) ?_
    refine g_modi K X 22 (by decide) (fun _ _ => rfl) q1421 dX8_format_118 ?_
    have h0 := Option.some.inj h0
    obtain ⟨q_0, q_1⟩ := Prod.mk.inj h0
    subst q_0
    subst q_1
    subst hQ
    exact w_iret K hr0 X wM_fstx hsz dX8_format_121
  refine lv_aload_n hx hb dX8_format_0 rfl (lv_at hl 0 rfl) ?_
  refine lv_iconst (v := 0) hx hb dX8_format_1 (by decide) ?_
  obtain ⟨Mv1, eMv1, h0⟩ := lt_out h0
  refine p_modi (ty := .int) K X 0 (by decide) (fun _ _ => rfl) (by decide +kernel) ⟨rfl, rfl⟩ eMv1 q1399 dX8_format_2 (fun H locs X => ?_)
  refine lv_aload_n hx hb dX8_format_5 rfl (lv_at hl 0 rfl) ?_
  refine lv_aload_n hx hb dX8_format_6 rfl (lv_at hl 0 rfl) ?_
  refine lv_iload_n hx hb dX8_format_7 rfl (lv_at hl 1 rfl) ?_
  obtain ⟨x2, ex2, h0⟩ := ob_out h0
  have kx2 := m_X8_isTube l D ca am Mv1 xs a1 x2 ex2 H.size
  refine w_callV0 K X wM_fstx kx2 hl.1 1 q1714 q1716 q60 q97 q1717 hv_X8_isTube ⟨⟨Nat.le_of_ble_eq_true rfl, Nat.le_of_ble_eq_true rfl⟩, rfl, rfl⟩ pl_modo rfl rfl rfl rfl (Nat.le_of_ble_eq_true rfl) dX8_format_8 ⟨Nat.le_of_ble_eq_true rfl, Nat.le_of_ble_eq_true rfl⟩ rfl (fun H locs X => ?_)
  refine lv_iconst (v := 1) hx hb dX8_format_11 (by decide) ?_
  obtain ⟨x3, ex3, h0⟩ := lt_out h0
  obtain ⟨Mv4, eMv4, h0⟩ := lt_out h0
  have kx3 := m_X8_fails l D ca am Mv1 xs (b2i x2) 1 x3.1 x3.2 ex3.symm H.size
  rw [← eMv4] at kx3
  refine w_callV0 K X wM_fstx kx3 hl.1 2 q1507 q1509 q22 q97 q1510 hv_X8_fails ⟨⟨Nat.le_of_ble_eq_true rfl, Nat.le_of_ble_eq_true rfl⟩, rfl, rfl⟩ pl_modo rfl rfl rfl rfl (Nat.le_of_ble_eq_true rfl) dX8_format_12 ⟨Nat.le_of_ble_eq_true rfl, Nat.le_of_ble_eq_true rfl⟩ rfl (fun H locs X => ?_)
  refine w_zeq (tgt := 20) K dX8_format_15 (by decide) (fun c5 => ?_) (fun c5 => ?_)
  · have h0 := if_f c5 h0
    refine lv_aload_n hx hb dX8_format_20 rfl (lv_at hl 0 rfl) ?_
    refine lv_iconst (v := 0) hx hb dX8_format_21 (by decide) ?_
    obtain ⟨Mv6, eMv6, h0⟩ := lt_out h0
    refine p_modi (ty := .int) K X 22 (by decide) (fun _ _ => rfl) (by decide +kernel) ⟨rfl, rfl⟩ eMv6 q1421 dX8_format_22 (fun H locs X => ?_)
    refine lv_aload_n hx hb dX8_format_25 rfl (lv_at hl 0 rfl) ?_
    refine lv_aload_n hx hb dX8_format_26 rfl (lv_at hl 0 rfl) ?_
    refine lv_iload_n hx hb dX8_format_27 rfl (lv_at hl 1 rfl) ?_
    refine lv_iconst (v := 0) hx hb dX8_format_28 (by decide) ?_
    obtain ⟨x7, ex7, h0⟩ := ob_out h0
    have kx7 := m_X8_of l D ca am Mv6 xs a1 0 x7 ex7 H.size
    refine w_callV0 K X wM_fstx kx7 hl.1 2 q1631 q1633 q47 q97 q1634 hv_X8_of ⟨⟨Nat.le_of_ble_eq_true rfl, Nat.le_of_ble_eq_true rfl⟩, rfl, rfl⟩ pl_modo rfl rfl rfl rfl (Nat.le_of_ble_eq_true rfl) dX8_format_29 ⟨Nat.le_of_ble_eq_true rfl, Nat.le_of_ble_eq_true rfl⟩ rfl (fun H locs X => ?_)
    obtain ⟨x8, ex8, h0⟩ := ob_out h0
    obtain ⟨Mv9, eMv9, h0⟩ := lt_out h0
    have kx8 := m_X8_writesNumber l D ca am n Mv6 xs x7 x8 ex8 H.size
    rw [← eMv9] at kx8
    refine w_callV0 K X wM_fstx kx8 hl.1 1 q1901 q1903 q71 q97 q1904 hv_X8_writesNumber ⟨⟨Nat.le_of_ble_eq_true rfl, Nat.le_of_ble_eq_true rfl⟩, rfl, rfl⟩ pl_modo rfl rfl rfl rfl (Nat.le_of_ble_eq_true rfl) dX8_format_32 ⟨Nat.le_of_ble_eq_true rfl, Nat.le_of_ble_eq_true rfl⟩ rfl (fun H locs X => ?_)
    refine lv_aload_n hx hb dX8_format_35 rfl (lv_at hl 0 rfl) ?_
    refine lv_bipush (v := 47) hx hb dX8_format_36 (by decide) ?_
    obtain ⟨x10, ex10, h0⟩ := ob_out h0
    obtain ⟨Mv11, eMv11, h0⟩ := lt_out h0
    have kx10 := m_X8_writes l D ca am Mv9 xs 47 x10 ex10 H.size
    rw [← eMv11] at kx10
    refine w_callV0 K X wM_fstx kx10 hl.1 1 q1905 q1907 q72 q97 q1908 hv_X8_writes ⟨⟨Nat.le_of_ble_eq_true rfl, Nat.le_of_ble_eq_true rfl⟩, rfl, rfl⟩ pl_modo rfl rfl rfl rfl (Nat.le_of_ble_eq_true rfl) dX8_format_38 ⟨Nat.le_of_ble_eq_true rfl, Nat.le_of_ble_eq_true rfl⟩ rfl (fun H locs X => ?_)
    refine lv_aload_n hx hb dX8_format_41 rfl (lv_at hl 0 rfl) ?_
    refine lv_aload_n hx hb dX8_format_42 rfl (lv_at hl 0 rfl) ?_
    refine lv_iload_n hx hb dX8_format_43 rfl (lv_at hl 1 rfl) ?_
    refine lv_iconst (v := 1) hx hb dX8_format_44 (by decide) ?_
    obtain ⟨x12, ex12, h0⟩ := ob_out h0
    have kx12 := m_X8_of l D ca am Mv11 xs a1 1 x12 ex12 H.size
    refine w_callV0 K X wM_fstx kx12 hl.1 2 q1631 q1633 q47 q97 q1634 hv_X8_of ⟨⟨Nat.le_of_ble_eq_true rfl, Nat.le_of_ble_eq_true rfl⟩, rfl, rfl⟩ pl_modo rfl rfl rfl rfl (Nat.le_of_ble_eq_true rfl) dX8_format_45 ⟨Nat.le_of_ble_eq_true rfl, Nat.le_of_ble_eq_true rfl⟩ rfl (fun H locs X => ?_)
    obtain ⟨x13, ex13, h0⟩ := ob_out h0
    obtain ⟨Mv14, eMv14, h0⟩ := lt_out h0
    have kx13 := m_X8_writesNumber l D ca am n Mv11 xs x12 x13 ex13 H.size
    rw [← eMv14] at kx13
    refine w_callV0 K X wM_fstx kx13 hl.1 1 q1901 q1903 q71 q97 q1904 hv_X8_writesNumber ⟨⟨Nat.le_of_ble_eq_true rfl, Nat.le_of_ble_eq_true rfl⟩, rfl, rfl⟩ pl_modo rfl rfl rfl rfl (Nat.le_of_ble_eq_true rfl) dX8_format_48 ⟨Nat.le_of_ble_eq_true rfl, Nat.le_of_ble_eq_true rfl⟩ rfl (fun H locs X => ?_)
    refine lv_aload_n hx hb dX8_format_51 rfl (lv_at hl 0 rfl) ?_
    refine lv_bipush (v := 32) hx hb dX8_format_52 (by decide) ?_
    obtain ⟨x15, ex15, h0⟩ := ob_out h0
    obtain ⟨Mv16, eMv16, h0⟩ := lt_out h0
    have kx15 := m_X8_writes l D ca am Mv14 xs 32 x15 ex15 H.size
    rw [← eMv16] at kx15
    refine w_callV0 K X wM_fstx kx15 hl.1 1 q1905 q1907 q72 q97 q1908 hv_X8_writes ⟨⟨Nat.le_of_ble_eq_true rfl, Nat.le_of_ble_eq_true rfl⟩, rfl, rfl⟩ pl_modo rfl rfl rfl rfl (Nat.le_of_ble_eq_true rfl) dX8_format_54 ⟨Nat.le_of_ble_eq_true rfl, Nat.le_of_ble_eq_true rfl⟩ rfl (fun H locs X => ?_)
    refine lv_aload_n hx hb dX8_format_57 rfl (lv_at hl 0 rfl) ?_
    refine lv_aload_n hx hb dX8_format_58 rfl (lv_at hl 0 rfl) ?_
    refine lv_iload_n hx hb dX8_format_59 rfl (lv_at hl 1 rfl) ?_
    refine lv_iconst (v := 3) hx hb dX8_format_60 (by decide) ?_
    obtain ⟨x17, ex17, h0⟩ := ob_out h0
    have kx17 := m_X8_of l D ca am Mv16 xs a1 3 x17 ex17 H.size
    refine w_callV0 K X wM_fstx kx17 hl.1 2 q1631 q1633 q47 q97 q1634 hv_X8_of ⟨⟨Nat.le_of_ble_eq_true rfl, Nat.le_of_ble_eq_true rfl⟩, rfl, rfl⟩ pl_modo rfl rfl rfl rfl (Nat.le_of_ble_eq_true rfl) dX8_format_61 ⟨Nat.le_of_ble_eq_true rfl, Nat.le_of_ble_eq_true rfl⟩ rfl (fun H locs X => ?_)
    obtain ⟨x18, ex18, h0⟩ := ob_out h0
    obtain ⟨Mv19, eMv19, h0⟩ := lt_out h0
    have kx18 := m_X8_writesNumber l D ca am n Mv16 xs x17 x18 ex18 H.size
    rw [← eMv19] at kx18
    refine w_callV0 K X wM_fstx kx18 hl.1 1 q1901 q1903 q71 q97 q1904 hv_X8_writesNumber ⟨⟨Nat.le_of_ble_eq_true rfl, Nat.le_of_ble_eq_true rfl⟩, rfl, rfl⟩ pl_modo rfl rfl rfl rfl (Nat.le_of_ble_eq_true rfl) dX8_format_64 ⟨Nat.le_of_ble_eq_true rfl, Nat.le_of_ble_eq_true rfl⟩ rfl (fun H locs X => ?_)
    refine lv_aload_n hx hb dX8_format_67 rfl (lv_at hl 0 rfl) ?_
    refine lv_bipush (v := 32) hx hb dX8_format_68 (by decide) ?_
    obtain ⟨x20, ex20, h0⟩ := ob_out h0
    obtain ⟨Mv21, eMv21, h0⟩ := lt_out h0
    have kx20 := m_X8_writes l D ca am Mv19 xs 32 x20 ex20 H.size
    rw [← eMv21] at kx20
    refine w_callV0 K X wM_fstx kx20 hl.1 1 q1905 q1907 q72 q97 q1908 hv_X8_writes ⟨⟨Nat.le_of_ble_eq_true rfl, Nat.le_of_ble_eq_true rfl⟩, rfl, rfl⟩ pl_modo rfl rfl rfl rfl (Nat.le_of_ble_eq_true rfl) dX8_format_70 ⟨Nat.le_of_ble_eq_true rfl, Nat.le_of_ble_eq_true rfl⟩ rfl (fun H locs X => ?_)
    refine lv_aload_n hx hb dX8_format_73 rfl (lv_at hl 0 rfl) ?_
    refine lv_iload_n hx hb dX8_format_74 rfl (lv_at hl 1 rfl) ?_
    obtain ⟨x22, ex22, h0⟩ := ob_out h0
    have kx22 := m_X8_isWhole l D ca am Mv21 xs a1 x22 ex22 H.size
    refine w_callV0 K X wM_fstx kx22 hl.1 1 q1655 q1657 q52 q97 q1658 hv_X8_isWhole ⟨⟨Nat.le_of_ble_eq_true rfl, Nat.le_of_ble_eq_true rfl⟩, rfl, rfl⟩ pl_modo rfl rfl rfl rfl (Nat.le_of_ble_eq_true rfl) dX8_format_75 ⟨Nat.le_of_ble_eq_true rfl, Nat.le_of_ble_eq_true rfl⟩ rfl (fun H locs X => ?_)
    refine w_zeq (tgt := 93) K dX8_format_78 (by decide) (fun c23 => ?_) (fun c23 => ?_)
    · have h0 := if_f c23 h0
      refine lv_aload_n hx hb dX8_format_93 rfl (lv_at hl 0 rfl) ?_
      refine lv_aload_n hx hb dX8_format_94 rfl (lv_at hl 0 rfl) ?_
      refine lv_iload_n hx hb dX8_format_95 rfl (lv_at hl 1 rfl) ?_
      refine lv_bipush (v := 6) hx hb dX8_format_96 (by decide) ?_
      obtain ⟨x24, ex24, h0⟩ := ob_out h0
      have kx24 := m_X8_of l D ca am Mv21 xs a1 6 x24 ex24 H.size
      refine w_callV0 K X wM_fstx kx24 hl.1 2 q1631 q1633 q47 q97 q1634 hv_X8_of ⟨⟨Nat.le_of_ble_eq_true rfl, Nat.le_of_ble_eq_true rfl⟩, rfl, rfl⟩ pl_modo rfl rfl rfl rfl (Nat.le_of_ble_eq_true rfl) dX8_format_98 ⟨Nat.le_of_ble_eq_true rfl, Nat.le_of_ble_eq_true rfl⟩ rfl (fun H locs X => ?_)
      refine lv_iconst (v := 1) hx hb dX8_format_101 (by decide) ?_
      refine lv_icmp_ne (tgt := 111) hx hb dX8_format_102 (by decide) (fun c25 => ?_) (fun c25 => ?_)
      · have h0 := if_f c25 h0
        refine lv_ldc2 hx hb K.2.2.2.1 (K.2.2.2.2.1 _ q1914) dX8_format_111 ?_
        exact J114 1310648 Mv21 H locs X ls (lv_sub hl [0] rfl) h0
      · have h0 := if_t c25 h0
        refine lv_ldc2 hx hb K.2.2.2.1 (K.2.2.2.2.1 _ q1913) dX8_format_105 ?_
        refine lv_goto (tgt := 114) hx hb dX8_format_108 (by decide) ?_
        exact J114 283856701 Mv21 H locs X ls (lv_sub hl [0] rfl) h0
    · have h0 := if_t c23 h0
      refine lv_aload_n hx hb dX8_format_81 rfl (lv_at hl 0 rfl) ?_
      refine lv_aload_n hx hb dX8_format_82 rfl (lv_at hl 0 rfl) ?_
      refine lv_iload_n hx hb dX8_format_83 rfl (lv_at hl 1 rfl) ?_
      obtain ⟨x28, ex28, h0⟩ := ob_out h0
      have kx28 := m_X8_readingOf l D ca am n Mv21 xs a1 x28 ex28 H.size
      refine w_callV0 K X wM_fstx kx28 hl.1 1 q1723 q1725 q62 q97 q1726 hv_X8_readingOf ⟨⟨Nat.le_of_ble_eq_true rfl, Nat.le_of_ble_eq_true rfl⟩, rfl, rfl⟩ pl_modo rfl rfl rfl rfl (Nat.le_of_ble_eq_true rfl) dX8_format_84 ⟨Nat.le_of_ble_eq_true rfl, Nat.le_of_ble_eq_true rfl⟩ rfl (fun H locs X => ?_)
      obtain ⟨x29, ex29, h0⟩ := ob_out h0
      obtain ⟨Mv30, eMv30, h0⟩ := lt_out h0
      have kx29 := m_X8_writesSigned l D ca am n Mv21 xs x28 x29 ex29 H.size
      rw [← eMv30] at kx29
      refine w_callV0 K X wM_fstx kx29 hl.1 1 q1909 q1911 q73 q97 q1912 hv_X8_writesSigned ⟨⟨Nat.le_of_ble_eq_true rfl, Nat.le_of_ble_eq_true rfl⟩, rfl, rfl⟩ pl_modo rfl rfl rfl rfl (Nat.le_of_ble_eq_true rfl) dX8_format_87 ⟨Nat.le_of_ble_eq_true rfl, Nat.le_of_ble_eq_true rfl⟩ rfl (fun H locs X => ?_)
      refine lv_goto (tgt := 117) hx hb dX8_format_90 (by decide) ?_
      refine lv_aload_n hx hb dX8_format_117 rfl (lv_at hl 0 rfl) ?_
      refine g_modi K X 22 (by decide) (fun _ _ => rfl) q1421 dX8_format_118 ?_
      have h0 := Option.some.inj h0
      obtain ⟨q_0, q_1⟩ := Prod.mk.inj h0
      subst q_0
      subst q_1
      subst hQ
      exact w_iret K hr0 X wM_fstx hsz dX8_format_121
  · have h0 := if_t c5 h0
    refine lv_iconst (v := 0) hx hb dX8_format_18 (by decide) ?_
    have h0 := Option.some.inj h0
    obtain ⟨q_0, q_1⟩ := Prod.mk.inj h0
    subst q_0
    subst q_1
    subst hQ
    exact w_iret K hr0 X wM_fstx hsz dX8_format_19
-- X8_formattedByte
def f_X8_formattedByte (M : RowS) (a1 : Int32) : Option (Int32 × RowS) :=
  lt (si M 0 0 0) fun Mv1 =>
  lt (f_X8_in a1.toInt64 0 (((Mv1.1 0 22) - 1).toInt64)) fun x2 =>
  if x2 = true then
    if 0 ≤ a1.toInt ∧ a1.toInt < 40 then
      some ((Mv1.1 21 a1.toNatClampNeg), Mv1)
    else none
  else
    some ((-1), Mv1)
abbrev rm_X8_formattedByte : Room := { frames := 1, cells := 0, slots := 0, locals := 25 }
set_option maxRecDepth 100000 in
set_option maxHeartbeats 4000000 in
theorem m_X8_formattedByte (l : Launch) (D : va_G) (ca : Nat → ClassId) (am : Nat → Nat) (M : RowS) (xs : va_W) (a1 : Int32) (res : Int32) (M' : RowS) (h0 : f_X8_formattedByte M a1 = some (res, M')) (sz : Nat) : Met l yX8_formattedByte (ws_ yX8_formattedByte cX8_formattedByte 2 (some .int)) rm_X8_formattedByte (PCw D ca (wM am ca M ++ xs) sz [.ref (am 0), .int a1]) (QMw D (wM am ca M ++ xs) (wM am ca (M') ++ xs) sz (some (.int res))) 0 0 (AL (wM am ca M ++ xs) sz) := by
  refine met_of (by decide) (Nat.le_of_ble_eq_true rfl) (fun p e s m args below meth c K hr0 X hsz ls hl => ?_)
  have K : MC D ca p s m args meth c cX8_formattedByte 2 RX8 := K
  have hx := K.1
  have hb := K.2.1
  have hl : lv_has ls 2 [(0, .ref (am 0)), (1, .int a1)] := hl
  generalize hQ : MQ below _ args s 0 0 _ = Q
  unfold f_X8_formattedByte at h0
  suffices Z : ∀ (H : Heap) (locs : List Loc) (X : RW D (wM am ca M ++ xs) s.heap H locs), W p l e rm_X8_formattedByte s m args below meth c H locs 0 0 Q (F0 m 0 ls []) from Z _ _ X
  intro H locs X
  refine lv_aload_n hx hb dX8_formattedByte_0 rfl (lv_at hl 0 rfl) ?_
  refine lv_iconst (v := 0) hx hb dX8_formattedByte_1 (by decide) ?_
  obtain ⟨Mv1, eMv1, h0⟩ := lt_out h0
  refine p_modi (ty := .int) K X 0 (by decide) (fun _ _ => rfl) (by decide +kernel) ⟨rfl, rfl⟩ eMv1 q1399 dX8_formattedByte_2 (fun H locs X => ?_)
  refine lv_iload_n hx hb dX8_formattedByte_5 rfl (lv_at hl 1 rfl) ?_
  refine lv_i2l hx hb dX8_formattedByte_6 rfl ?_
  refine lv_lconst (v := 0) hx hb dX8_formattedByte_7 (by decide) ?_
  refine lv_aload_n hx hb dX8_formattedByte_8 rfl (lv_at hl 0 rfl) ?_
  refine g_modi K X 22 (by decide) (fun _ _ => rfl) q1421 dX8_formattedByte_9 ?_
  refine lv_iconst (v := 1) hx hb dX8_formattedByte_12 (by decide) ?_
  refine lv_isub hx hb dX8_formattedByte_13 ?_
  refine lv_i2l hx hb dX8_formattedByte_14 rfl ?_
  obtain ⟨x2, ex2, h0⟩ := lt_out h0
  have kx2 := m_X8_in l D ca (wM am ca Mv1 ++ xs) a1.toInt64 0 (((Mv1.1 0 22) - 1).toInt64) x2 ex2.symm H.size
  refine w_callS0 K X wM_fstx kx2 hl.1 3 q1504 q1505 q97 q1506 hs_X8_in ⟨⟨Nat.le_of_ble_eq_true rfl, Nat.le_of_ble_eq_true rfl⟩, rfl, rfl⟩ rfl rfl (Nat.le_of_ble_eq_true rfl) dX8_formattedByte_15 ⟨Nat.le_of_ble_eq_true rfl, Nat.le_of_ble_eq_true rfl⟩ rfl (fun H locs X => ?_)
  refine w_zeq (tgt := 30) K dX8_formattedByte_18 (by decide) (fun c3 => ?_) (fun c3 => ?_)
  · have h0 := if_f c3 h0
    refine lv_iconst (v := (-1)) hx hb dX8_formattedByte_30 (by decide) ?_
    have h0 := Option.some.inj h0
    obtain ⟨q_0, q_1⟩ := Prod.mk.inj h0
    subst q_0
    subst q_1
    subst hQ
    exact w_iret K hr0 X wM_fstx hsz dX8_formattedByte_31
  · have h0 := if_t c3 h0
    refine lv_aload_n hx hb dX8_formattedByte_21 rfl (lv_at hl 0 rfl) ?_
    refine g_modr K X 21 (by decide) (fun _ _ => rfl) q1420 dX8_formattedByte_22 ?_
    refine lv_iload_n hx hb dX8_formattedByte_25 rfl (lv_at hl 1 rfl) ?_
    obtain ⟨c4, h0⟩ := if_o h0
    refine a_modi K X 21 10 40 rfl rfl (inb_vp c4) dX8_formattedByte_26 ?_
    refine lv_goto (tgt := 31) hx hb dX8_formattedByte_27 (by decide) ?_
    have h0 := Option.some.inj h0
    obtain ⟨q_0, q_1⟩ := Prod.mk.inj h0
    subst q_0
    subst q_1
    subst hQ
    exact w_iret K hr0 X wM_fstx hsz dX8_formattedByte_31
-- X8_adds
def f_X8_adds (M : RowS) (a1 : Int32) : Option RowS :=
  if 0 ≤ (M.1 0 26).toInt ∧ (M.1 0 26).toInt < 200 then
    lt (si M 23 (M.1 0 26).toNatClampNeg a1) fun Mv2 =>
    lt (si Mv2 0 26 ((Mv2.1 0 26) + 1)) fun Mv3 =>
    some Mv3
  else none
abbrev rm_X8_adds : Room := { frames := 0, cells := 0, slots := 0, locals := 0 }
set_option maxRecDepth 100000 in
set_option maxHeartbeats 4000000 in
theorem m_X8_adds (l : Launch) (D : va_G) (ca : Nat → ClassId) (am : Nat → Nat) (M : RowS) (xs : va_W) (a1 : Int32) (M' : RowS) (h0 : f_X8_adds M a1 = some M') (sz : Nat) : Met l yX8_adds (ws_ yX8_adds cX8_adds 2 none) rm_X8_adds (PCw D ca (wM am ca M ++ xs) sz [.ref (am 0), .int a1]) (QMw D (wM am ca M ++ xs) (wM am ca (M') ++ xs) sz none) 0 0 (AL (wM am ca M ++ xs) sz) := by
  refine met_of (by decide) (Nat.le_of_ble_eq_true rfl) (fun p e s m args below meth c K hr0 X hsz ls hl => ?_)
  have K : MC D ca p s m args meth c cX8_adds 2 RX8 := K
  have hx := K.1
  have hb := K.2.1
  have hl : lv_has ls 2 [(0, .ref (am 0)), (1, .int a1)] := hl
  generalize hQ : MQ below _ args s 0 0 _ = Q
  unfold f_X8_adds at h0
  suffices Z : ∀ (H : Heap) (locs : List Loc) (X : RW D (wM am ca M ++ xs) s.heap H locs), W p l e rm_X8_adds s m args below meth c H locs 0 0 Q (F0 m 0 ls []) from Z _ _ X
  intro H locs X
  refine lv_aload_n hx hb dX8_adds_0 rfl (lv_at hl 0 rfl) ?_
  refine g_modr K X 23 (by decide) (fun _ _ => rfl) q1422 dX8_adds_1 ?_
  refine lv_aload_n hx hb dX8_adds_4 rfl (lv_at hl 0 rfl) ?_
  refine g_modi K X 26 (by decide) (fun _ _ => rfl) q1425 dX8_adds_5 ?_
  refine lv_iload_n hx hb dX8_adds_8 rfl (lv_at hl 1 rfl) ?_
  obtain ⟨c1, h0⟩ := if_o h0
  obtain ⟨Mv2, eMv2, h0⟩ := lt_out h0
  refine s_modi K X 23 11 200 rfl (fun _ => rfl) (inb_vp c1) eMv2 dX8_adds_9 (fun H locs X => ?_)
  refine lv_aload_n hx hb dX8_adds_10 rfl (lv_at hl 0 rfl) ?_
  refine lv_dup hx hb dX8_adds_11 rfl ?_
  refine g_modi K X 26 (by decide) (fun _ _ => rfl) q1425 dX8_adds_12 ?_
  refine lv_iconst (v := 1) hx hb dX8_adds_15 (by decide) ?_
  refine lv_iadd hx hb dX8_adds_16 ?_
  obtain ⟨Mv3, eMv3, h0⟩ := lt_out h0
  refine p_modi (ty := .int) K X 26 (by decide) (fun _ _ => rfl) (by decide +kernel) ⟨rfl, rfl⟩ eMv3 q1425 dX8_adds_17 (fun H locs X => ?_)
  have h0 := Option.some.inj h0
  subst h0
  subst hQ
  exact w_vret K hr0 X wM_fstx hsz dX8_adds_20
-- X8_propertyHere
def f_X8_propertyHere (M : RowS) : Int32 :=
  lt (f_X8_isWord M 409028) fun x1 =>
  if x1 = true then
    0
  else
    lt (f_X8_isWord M 8890) fun x3 =>
    if x3 = true then
      1
    else
      lt (f_X8_isWord M 8805260) fun x5 =>
      if x5 = true then
        2
      else
        lt (f_X8_isWord M 50792) fun x7 =>
        if x7 = true then
          3
        else
          lt (f_X8_isWord M 10334702) fun x9 =>
          if x9 = true then
            4
          else
            lt (f_X8_isWord M 175125302) fun x11 =>
            if x11 = true then
              5
            else
              lt (f_X8_isWord M 10492313) fun x13 =>
              if x13 = true then
                6
              else
                lt (f_X8_isWord M 51270206) fun x15 =>
                if x15 = true then
                  7
                else
                  lt (f_X8_isWord M 174421451741) fun x17 =>
                  if x17 = true then
                    8
                  else
                    (-1)
abbrev rm_X8_propertyHere : Room := { frames := 2, cells := 0, slots := 0, locals := 42 }
set_option maxRecDepth 100000 in
set_option maxHeartbeats 4000000 in
theorem m_X8_propertyHere (l : Launch) (D : va_G) (ca : Nat → ClassId) (am : Nat → Nat) (M : RowS) (xs : va_W) (res : Int32) (h0 : f_X8_propertyHere M = res) (sz : Nat) : Met l yX8_propertyHere (ws_ yX8_propertyHere cX8_propertyHere 1 (some .int)) rm_X8_propertyHere (PCw D ca (wM am ca M ++ xs) sz [.ref (am 0)]) (QMw D (wM am ca M ++ xs) (wM am ca M ++ xs) sz (some (.int res))) 0 0 (AL (wM am ca M ++ xs) sz) := by
  refine met_of (by decide) (Nat.le_of_ble_eq_true rfl) (fun p e s m args below meth c K hr0 X hsz ls hl => ?_)
  have K : MC D ca p s m args meth c cX8_propertyHere 1 RX8 := K
  have hx := K.1
  have hb := K.2.1
  have hl : lv_has ls 1 [(0, .ref (am 0))] := hl
  generalize hQ : MQ below _ args s 0 0 _ = Q
  unfold f_X8_propertyHere at h0
  suffices Z : ∀ (H : Heap) (locs : List Loc) (X : RW D (wM am ca M ++ xs) s.heap H locs), W p l e rm_X8_propertyHere s m args below meth c H locs 0 0 Q (F0 m 0 ls []) from Z _ _ X
  intro H locs X
  refine lv_aload_n hx hb dX8_propertyHere_0 rfl (lv_at hl 0 rfl) ?_
  refine lv_ldc2 hx hb K.2.2.2.1 (K.2.2.2.2.1 _ q1584) dX8_propertyHere_1 ?_
  obtain ⟨x1, ex1, h0⟩ := lt_out h0
  have kx1 := m_X8_isWord l D ca am M xs 409028 x1 ex1.symm H.size
  refine w_callV0 K X wM_fstx kx1 hl.1 1 q1559 q1561 q31 q97 q1562 hv_X8_isWord ⟨⟨Nat.le_of_ble_eq_true rfl, Nat.le_of_ble_eq_true rfl⟩, rfl, rfl⟩ pl_modo rfl rfl rfl rfl (Nat.le_of_ble_eq_true rfl) dX8_propertyHere_4 ⟨Nat.le_of_ble_eq_true rfl, Nat.le_of_ble_eq_true rfl⟩ rfl (fun H locs X => ?_)
  refine w_zeq (tgt := 12) K dX8_propertyHere_7 (by decide) (fun c2 => ?_) (fun c2 => ?_)
  · have h0 := if_f c2 h0
    refine lv_aload_n hx hb dX8_propertyHere_12 rfl (lv_at hl 0 rfl) ?_
    refine lv_ldc2 hx hb K.2.2.2.1 (K.2.2.2.2.1 _ q1601) dX8_propertyHere_13 ?_
    obtain ⟨x3, ex3, h0⟩ := lt_out h0
    have kx3 := m_X8_isWord l D ca am M xs 8890 x3 ex3.symm H.size
    refine w_callV0 K X wM_fstx kx3 hl.1 1 q1559 q1561 q31 q97 q1562 hv_X8_isWord ⟨⟨Nat.le_of_ble_eq_true rfl, Nat.le_of_ble_eq_true rfl⟩, rfl, rfl⟩ pl_modo rfl rfl rfl rfl (Nat.le_of_ble_eq_true rfl) dX8_propertyHere_16 ⟨Nat.le_of_ble_eq_true rfl, Nat.le_of_ble_eq_true rfl⟩ rfl (fun H locs X => ?_)
    refine w_zeq (tgt := 24) K dX8_propertyHere_19 (by decide) (fun c4 => ?_) (fun c4 => ?_)
    · have h0 := if_f c4 h0
      refine lv_aload_n hx hb dX8_propertyHere_24 rfl (lv_at hl 0 rfl) ?_
      refine lv_ldc2 hx hb K.2.2.2.1 (K.2.2.2.2.1 _ q1959) dX8_propertyHere_25 ?_
      obtain ⟨x5, ex5, h0⟩ := lt_out h0
      have kx5 := m_X8_isWord l D ca am M xs 8805260 x5 ex5.symm H.size
      refine w_callV0 K X wM_fstx kx5 hl.1 1 q1559 q1561 q31 q97 q1562 hv_X8_isWord ⟨⟨Nat.le_of_ble_eq_true rfl, Nat.le_of_ble_eq_true rfl⟩, rfl, rfl⟩ pl_modo rfl rfl rfl rfl (Nat.le_of_ble_eq_true rfl) dX8_propertyHere_28 ⟨Nat.le_of_ble_eq_true rfl, Nat.le_of_ble_eq_true rfl⟩ rfl (fun H locs X => ?_)
      refine w_zeq (tgt := 36) K dX8_propertyHere_31 (by decide) (fun c6 => ?_) (fun c6 => ?_)
      · have h0 := if_f c6 h0
        refine lv_aload_n hx hb dX8_propertyHere_36 rfl (lv_at hl 0 rfl) ?_
        refine lv_ldc2 hx hb K.2.2.2.1 (K.2.2.2.2.1 _ q1960) dX8_propertyHere_37 ?_
        obtain ⟨x7, ex7, h0⟩ := lt_out h0
        have kx7 := m_X8_isWord l D ca am M xs 50792 x7 ex7.symm H.size
        refine w_callV0 K X wM_fstx kx7 hl.1 1 q1559 q1561 q31 q97 q1562 hv_X8_isWord ⟨⟨Nat.le_of_ble_eq_true rfl, Nat.le_of_ble_eq_true rfl⟩, rfl, rfl⟩ pl_modo rfl rfl rfl rfl (Nat.le_of_ble_eq_true rfl) dX8_propertyHere_40 ⟨Nat.le_of_ble_eq_true rfl, Nat.le_of_ble_eq_true rfl⟩ rfl (fun H locs X => ?_)
        refine w_zeq (tgt := 48) K dX8_propertyHere_43 (by decide) (fun c8 => ?_) (fun c8 => ?_)
        · have h0 := if_f c8 h0
          refine lv_aload_n hx hb dX8_propertyHere_48 rfl (lv_at hl 0 rfl) ?_
          refine lv_ldc2 hx hb K.2.2.2.1 (K.2.2.2.2.1 _ q1961) dX8_propertyHere_49 ?_
          obtain ⟨x9, ex9, h0⟩ := lt_out h0
          have kx9 := m_X8_isWord l D ca am M xs 10334702 x9 ex9.symm H.size
          refine w_callV0 K X wM_fstx kx9 hl.1 1 q1559 q1561 q31 q97 q1562 hv_X8_isWord ⟨⟨Nat.le_of_ble_eq_true rfl, Nat.le_of_ble_eq_true rfl⟩, rfl, rfl⟩ pl_modo rfl rfl rfl rfl (Nat.le_of_ble_eq_true rfl) dX8_propertyHere_52 ⟨Nat.le_of_ble_eq_true rfl, Nat.le_of_ble_eq_true rfl⟩ rfl (fun H locs X => ?_)
          refine w_zeq (tgt := 60) K dX8_propertyHere_55 (by decide) (fun c10 => ?_) (fun c10 => ?_)
          · have h0 := if_f c10 h0
            refine lv_aload_n hx hb dX8_propertyHere_60 rfl (lv_at hl 0 rfl) ?_
            refine lv_ldc2 hx hb K.2.2.2.1 (K.2.2.2.2.1 _ q1962) dX8_propertyHere_61 ?_
            obtain ⟨x11, ex11, h0⟩ := lt_out h0
            have kx11 := m_X8_isWord l D ca am M xs 175125302 x11 ex11.symm H.size
            refine w_callV0 K X wM_fstx kx11 hl.1 1 q1559 q1561 q31 q97 q1562 hv_X8_isWord ⟨⟨Nat.le_of_ble_eq_true rfl, Nat.le_of_ble_eq_true rfl⟩, rfl, rfl⟩ pl_modo rfl rfl rfl rfl (Nat.le_of_ble_eq_true rfl) dX8_propertyHere_64 ⟨Nat.le_of_ble_eq_true rfl, Nat.le_of_ble_eq_true rfl⟩ rfl (fun H locs X => ?_)
            refine w_zeq (tgt := 72) K dX8_propertyHere_67 (by decide) (fun c12 => ?_) (fun c12 => ?_)
            · have h0 := if_f c12 h0
              refine lv_aload_n hx hb dX8_propertyHere_72 rfl (lv_at hl 0 rfl) ?_
              refine lv_ldc2 hx hb K.2.2.2.1 (K.2.2.2.2.1 _ q1963) dX8_propertyHere_73 ?_
              obtain ⟨x13, ex13, h0⟩ := lt_out h0
              have kx13 := m_X8_isWord l D ca am M xs 10492313 x13 ex13.symm H.size
              refine w_callV0 K X wM_fstx kx13 hl.1 1 q1559 q1561 q31 q97 q1562 hv_X8_isWord ⟨⟨Nat.le_of_ble_eq_true rfl, Nat.le_of_ble_eq_true rfl⟩, rfl, rfl⟩ pl_modo rfl rfl rfl rfl (Nat.le_of_ble_eq_true rfl) dX8_propertyHere_76 ⟨Nat.le_of_ble_eq_true rfl, Nat.le_of_ble_eq_true rfl⟩ rfl (fun H locs X => ?_)
              refine w_zeq (tgt := 85) K dX8_propertyHere_79 (by decide) (fun c14 => ?_) (fun c14 => ?_)
              · have h0 := if_f c14 h0
                refine lv_aload_n hx hb dX8_propertyHere_85 rfl (lv_at hl 0 rfl) ?_
                refine lv_ldc2 hx hb K.2.2.2.1 (K.2.2.2.2.1 _ q1964) dX8_propertyHere_86 ?_
                obtain ⟨x15, ex15, h0⟩ := lt_out h0
                have kx15 := m_X8_isWord l D ca am M xs 51270206 x15 ex15.symm H.size
                refine w_callV0 K X wM_fstx kx15 hl.1 1 q1559 q1561 q31 q97 q1562 hv_X8_isWord ⟨⟨Nat.le_of_ble_eq_true rfl, Nat.le_of_ble_eq_true rfl⟩, rfl, rfl⟩ pl_modo rfl rfl rfl rfl (Nat.le_of_ble_eq_true rfl) dX8_propertyHere_89 ⟨Nat.le_of_ble_eq_true rfl, Nat.le_of_ble_eq_true rfl⟩ rfl (fun H locs X => ?_)
                refine w_zeq (tgt := 98) K dX8_propertyHere_92 (by decide) (fun c16 => ?_) (fun c16 => ?_)
                · have h0 := if_f c16 h0
                  refine lv_aload_n hx hb dX8_propertyHere_98 rfl (lv_at hl 0 rfl) ?_
                  refine lv_ldc2 hx hb K.2.2.2.1 (K.2.2.2.2.1 _ q1606) dX8_propertyHere_99 ?_
                  obtain ⟨x17, ex17, h0⟩ := lt_out h0
                  have kx17 := m_X8_isWord l D ca am M xs 174421451741 x17 ex17.symm H.size
                  refine w_callV0 K X wM_fstx kx17 hl.1 1 q1559 q1561 q31 q97 q1562 hv_X8_isWord ⟨⟨Nat.le_of_ble_eq_true rfl, Nat.le_of_ble_eq_true rfl⟩, rfl, rfl⟩ pl_modo rfl rfl rfl rfl (Nat.le_of_ble_eq_true rfl) dX8_propertyHere_102 ⟨Nat.le_of_ble_eq_true rfl, Nat.le_of_ble_eq_true rfl⟩ rfl (fun H locs X => ?_)
                  refine w_zeq (tgt := 113) K dX8_propertyHere_105 (by decide) (fun c18 => ?_) (fun c18 => ?_)
                  · have h0 := if_f c18 h0
                    refine lv_iconst (v := (-1)) hx hb dX8_propertyHere_113 (by decide) ?_
                    subst h0
                    subst hQ
                    exact w_iret K hr0 X wM_fstx hsz dX8_propertyHere_114
                  · have h0 := if_t c18 h0
                    refine lv_bipush (v := 8) hx hb dX8_propertyHere_108 (by decide) ?_
                    refine lv_goto (tgt := 114) hx hb dX8_propertyHere_110 (by decide) ?_
                    subst h0
                    subst hQ
                    exact w_iret K hr0 X wM_fstx hsz dX8_propertyHere_114
                · have h0 := if_t c16 h0
                  refine lv_bipush (v := 7) hx hb dX8_propertyHere_95 (by decide) ?_
                  subst h0
                  subst hQ
                  exact w_iret K hr0 X wM_fstx hsz dX8_propertyHere_97
              · have h0 := if_t c14 h0
                refine lv_bipush (v := 6) hx hb dX8_propertyHere_82 (by decide) ?_
                subst h0
                subst hQ
                exact w_iret K hr0 X wM_fstx hsz dX8_propertyHere_84
            · have h0 := if_t c12 h0
              refine lv_iconst (v := 5) hx hb dX8_propertyHere_70 (by decide) ?_
              subst h0
              subst hQ
              exact w_iret K hr0 X wM_fstx hsz dX8_propertyHere_71
          · have h0 := if_t c10 h0
            refine lv_iconst (v := 4) hx hb dX8_propertyHere_58 (by decide) ?_
            subst h0
            subst hQ
            exact w_iret K hr0 X wM_fstx hsz dX8_propertyHere_59
        · have h0 := if_t c8 h0
          refine lv_iconst (v := 3) hx hb dX8_propertyHere_46 (by decide) ?_
          subst h0
          subst hQ
          exact w_iret K hr0 X wM_fstx hsz dX8_propertyHere_47
      · have h0 := if_t c6 h0
        refine lv_iconst (v := 2) hx hb dX8_propertyHere_34 (by decide) ?_
        subst h0
        subst hQ
        exact w_iret K hr0 X wM_fstx hsz dX8_propertyHere_35
    · have h0 := if_t c4 h0
      refine lv_iconst (v := 1) hx hb dX8_propertyHere_22 (by decide) ?_
      subst h0
      subst hQ
      exact w_iret K hr0 X wM_fstx hsz dX8_propertyHere_23
  · have h0 := if_t c2 h0
    refine lv_iconst (v := 0) hx hb dX8_propertyHere_10 (by decide) ?_
    subst h0
    subst hQ
    exact w_iret K hr0 X wM_fstx hsz dX8_propertyHere_11
-- X8_valueRead
def f_X8_valueRead (n : Nat) (M : RowS) : Option RowS :=
  lt (f_X8_isGood M) fun x1 =>
  if x1 = true then
    if (M.1 0 16) = 2 then
      ob (f_X8_number n M 0 999999) fun x12 =>
      lt (x12.2) fun Mv13 =>
      lt (x12.1) fun x14 =>
      ob (f_X8_adds Mv13 (100 + x14)) fun x15 =>
      lt (x15) fun Mv16 =>
      some Mv16
    else
      lt (f_X8_propertyHere M) fun x4 =>
      if x4 = (-1) then
        lt (f_X8_wrongs M 1) fun x10 =>
        lt (x10.2) fun Mv11 =>
        some Mv11
      else
        ob (f_X8_adds M x4) fun x6 =>
        lt (x6) fun Mv7 =>
        ob (f_X8_next n Mv7) fun x8 =>
        lt (x8) fun Mv9 =>
        some Mv9
  else
    some M
abbrev rm_X8_valueRead : Room := { frames := 4, cells := 0, slots := 0, locals := 84 }
set_option maxRecDepth 100000 in
set_option maxHeartbeats 4000000 in
theorem m_X8_valueRead (l : Launch) (D : va_G) (ca : Nat → ClassId) (am : Nat → Nat) (n : Nat) (M : RowS) (xs : va_W) (M' : RowS) (h0 : f_X8_valueRead n M = some M') (sz : Nat) : Met l yX8_valueRead (ws_ yX8_valueRead cX8_valueRead 2 none) rm_X8_valueRead (PCw D ca (wM am ca M ++ xs) sz [.ref (am 0)]) (QMw D (wM am ca M ++ xs) (wM am ca (M') ++ xs) sz none) 0 0 (AL (wM am ca M ++ xs) sz) := by
  refine met_of (by decide) (Nat.le_of_ble_eq_true rfl) (fun p e s m args below meth c K hr0 X hsz ls hl => ?_)
  have K : MC D ca p s m args meth c cX8_valueRead 2 RX8 := K
  have hx := K.1
  have hb := K.2.1
  have hl : lv_has ls 2 [(0, .ref (am 0))] := hl
  generalize hQ : MQ below _ args s 0 0 _ = Q
  unfold f_X8_valueRead at h0
  suffices Z : ∀ (H : Heap) (locs : List Loc) (X : RW D (wM am ca M ++ xs) s.heap H locs), W p l e rm_X8_valueRead s m args below meth c H locs 0 0 Q (F0 m 0 ls []) from Z _ _ X
  intro H locs X
  refine lv_aload_n hx hb dX8_valueRead_0 rfl (lv_at hl 0 rfl) ?_
  obtain ⟨x1, ex1, h0⟩ := lt_out h0
  have kx1 := m_X8_isGood l D ca am M xs x1 ex1.symm H.size
  refine w_callV0 K X wM_fstx kx1 hl.1 0 q1563 q1565 q32 q97 q1566 hv_X8_isGood ⟨⟨Nat.le_of_ble_eq_true rfl, Nat.le_of_ble_eq_true rfl⟩, rfl, rfl⟩ pl_modo rfl rfl rfl rfl (Nat.le_of_ble_eq_true rfl) dX8_valueRead_1 ⟨Nat.le_of_ble_eq_true rfl, Nat.le_of_ble_eq_true rfl⟩ rfl (fun H locs X => ?_)
  refine w_zne (tgt := 8) K dX8_valueRead_4 (by decide) (fun c2 => ?_) (fun c2 => ?_)
  · have h0 := if_t c2 h0
    refine lv_aload_n hx hb dX8_valueRead_8 rfl (lv_at hl 0 rfl) ?_
    refine g_modi K X 16 (by decide) (fun _ _ => rfl) q1415 dX8_valueRead_9 ?_
    refine lv_iconst (v := 2) hx hb dX8_valueRead_12 (by decide) ?_
    refine lv_icmp_ne (tgt := 34) hx hb dX8_valueRead_13 (by decide) (fun c3 => ?_) (fun c3 => ?_)
    · have h0 := if_f c3 h0
      refine lv_aload_n hx hb dX8_valueRead_34 rfl (lv_at hl 0 rfl) ?_
      obtain ⟨x4, ex4, h0⟩ := lt_out h0
      have kx4 := m_X8_propertyHere l D ca am M xs x4 ex4.symm H.size
      refine w_callV0 K X wM_fstx kx4 hl.1 0 q1955 q1957 q80 q97 q1958 hv_X8_propertyHere ⟨⟨Nat.le_of_ble_eq_true rfl, Nat.le_of_ble_eq_true rfl⟩, rfl, rfl⟩ pl_modo rfl rfl rfl rfl (Nat.le_of_ble_eq_true rfl) dX8_valueRead_35 ⟨Nat.le_of_ble_eq_true rfl, Nat.le_of_ble_eq_true rfl⟩ rfl (fun H locs X => ?_)
      refine lv_istore_n (lv' := [(1, .int x4), (0, .ref (am 0))]) hx hb dX8_valueRead_38 rfl hl (by decide) rfl (fun ls hl => ?_)
      refine lv_iload_n hx hb dX8_valueRead_39 rfl (lv_at hl 0 rfl) ?_
      refine lv_iconst (v := (-1)) hx hb dX8_valueRead_40 (by decide) ?_
      refine lv_icmp_ne (tgt := 51) hx hb dX8_valueRead_41 (by decide) (fun c5 => ?_) (fun c5 => ?_)
      · have h0 := if_f c5 h0
        refine lv_aload_n hx hb dX8_valueRead_51 rfl (lv_at hl 1 rfl) ?_
        refine lv_iload_n hx hb dX8_valueRead_52 rfl (lv_at hl 0 rfl) ?_
        obtain ⟨x6, ex6, h0⟩ := ob_out h0
        obtain ⟨Mv7, eMv7, h0⟩ := lt_out h0
        have kx6 := m_X8_adds l D ca am M xs x4 x6 ex6 H.size
        rw [← eMv7] at kx6
        refine w_callV0 K X wM_fstx kx6 hl.1 1 q1951 q1953 q79 q97 q1954 hv_X8_adds ⟨⟨Nat.le_of_ble_eq_true rfl, Nat.le_of_ble_eq_true rfl⟩, rfl, rfl⟩ pl_modo rfl rfl rfl rfl (Nat.le_of_ble_eq_true rfl) dX8_valueRead_53 ⟨Nat.le_of_ble_eq_true rfl, Nat.le_of_ble_eq_true rfl⟩ rfl (fun H locs X => ?_)
        refine lv_aload_n hx hb dX8_valueRead_56 rfl (lv_at hl 1 rfl) ?_
        obtain ⟨x8, ex8, h0⟩ := ob_out h0
        obtain ⟨Mv9, eMv9, h0⟩ := lt_out h0
        have kx8 := m_X8_next l D ca am n Mv7 xs x8 ex8 H.size
        rw [← eMv9] at kx8
        refine w_callV0 K X wM_fstx kx8 hl.1 0 q1525 q1527 q25 q97 q1528 hv_X8_next ⟨⟨Nat.le_of_ble_eq_true rfl, Nat.le_of_ble_eq_true rfl⟩, rfl, rfl⟩ pl_modo rfl rfl rfl rfl (Nat.le_of_ble_eq_true rfl) dX8_valueRead_57 ⟨Nat.le_of_ble_eq_true rfl, Nat.le_of_ble_eq_true rfl⟩ rfl (fun H locs X => ?_)
        have h0 := Option.some.inj h0
        subst h0
        subst hQ
        exact w_vret K hr0 X wM_fstx hsz dX8_valueRead_60
      · have h0 := if_t c5 h0
        refine lv_aload_n hx hb dX8_valueRead_44 rfl (lv_at hl 1 rfl) ?_
        refine lv_iconst (v := 1) hx hb dX8_valueRead_45 (by decide) ?_
        obtain ⟨x10, ex10, h0⟩ := lt_out h0
        obtain ⟨Mv11, eMv11, h0⟩ := lt_out h0
        have kx10 := m_X8_wrongs l D ca am M xs 1 x10.1 x10.2 ex10.symm H.size
        rw [← eMv11] at kx10
        refine w_callV0 K X wM_fstx kx10 hl.1 1 q1567 q1569 q33 q97 q1570 hv_X8_wrongs ⟨⟨Nat.le_of_ble_eq_true rfl, Nat.le_of_ble_eq_true rfl⟩, rfl, rfl⟩ pl_modo rfl rfl rfl rfl (Nat.le_of_ble_eq_true rfl) dX8_valueRead_46 ⟨Nat.le_of_ble_eq_true rfl, Nat.le_of_ble_eq_true rfl⟩ rfl (fun H locs X => ?_)
        refine lv_pop hx hb dX8_valueRead_49 rfl ?_
        have h0 := Option.some.inj h0
        subst h0
        subst hQ
        exact w_vret K hr0 X wM_fstx hsz dX8_valueRead_50
    · have h0 := if_t c3 h0
      refine lv_aload_n hx hb dX8_valueRead_16 rfl (lv_at hl 0 rfl) ?_
      refine lv_iconst (v := 0) hx hb dX8_valueRead_17 (by decide) ?_
      refine lv_ldcw hx hb K.2.2.2.1 (K.2.2.2.2.1 _ q1950) dX8_valueRead_18 ?_
      obtain ⟨x12, ex12, h0⟩ := ob_out h0
      obtain ⟨Mv13, eMv13, h0⟩ := lt_out h0
      have kx12 := m_X8_number l D ca am n M xs 0 999999 x12.1 x12.2 ex12 H.size
      rw [← eMv13] at kx12
      refine w_callV0 K X wM_fstx kx12 hl.1 2 q1571 q1573 q34 q97 q1574 hv_X8_number ⟨⟨Nat.le_of_ble_eq_true rfl, Nat.le_of_ble_eq_true rfl⟩, rfl, rfl⟩ pl_modo rfl rfl rfl rfl (Nat.le_of_ble_eq_true rfl) dX8_valueRead_21 ⟨Nat.le_of_ble_eq_true rfl, Nat.le_of_ble_eq_true rfl⟩ rfl (fun H locs X => ?_)
      obtain ⟨x14, ex14, h0⟩ := lt_out h0
      refine w_int ex14 ?_
      refine lv_istore_n (lv' := [(1, .int x14), (0, .ref (am 0))]) hx hb dX8_valueRead_24 rfl hl (by decide) rfl (fun ls hl => ?_)
      refine lv_aload_n hx hb dX8_valueRead_25 rfl (lv_at hl 1 rfl) ?_
      refine lv_bipush (v := 100) hx hb dX8_valueRead_26 (by decide) ?_
      refine lv_iload_n hx hb dX8_valueRead_28 rfl (lv_at hl 0 rfl) ?_
      refine lv_iadd hx hb dX8_valueRead_29 ?_
      obtain ⟨x15, ex15, h0⟩ := ob_out h0
      obtain ⟨Mv16, eMv16, h0⟩ := lt_out h0
      have kx15 := m_X8_adds l D ca am Mv13 xs (100 + x14) x15 ex15 H.size
      rw [← eMv16] at kx15
      refine w_callV0 K X wM_fstx kx15 hl.1 1 q1951 q1953 q79 q97 q1954 hv_X8_adds ⟨⟨Nat.le_of_ble_eq_true rfl, Nat.le_of_ble_eq_true rfl⟩, rfl, rfl⟩ pl_modo rfl rfl rfl rfl (Nat.le_of_ble_eq_true rfl) dX8_valueRead_30 ⟨Nat.le_of_ble_eq_true rfl, Nat.le_of_ble_eq_true rfl⟩ rfl (fun H locs X => ?_)
      have h0 := Option.some.inj h0
      subst h0
      subst hQ
      exact w_vret K hr0 X wM_fstx hsz dX8_valueRead_33
  · have h0 := if_f c2 h0
    have h0 := Option.some.inj h0
    subst h0
    subst hQ
    exact w_vret K hr0 X wM_fstx hsz dX8_valueRead_7
-- X8_goesIn
def f_X8_goesIn (n : Nat) (M : RowS) (a1 : Int32) : Option (Bool × RowS) :=
  if (M.1 0 28) = 6 then
    lt (f_X8_wrongs M 3) fun x8 =>
    lt (x8.2) fun Mv9 =>
    some (x8.1, Mv9)
  else
    lt (si M 0 28 ((M.1 0 28) + 1)) fun Mv2 =>
    if 0 ≤ (Mv2.1 0 27).toInt ∧ (Mv2.1 0 27).toInt < 200 then
      lt (si Mv2 24 (Mv2.1 0 27).toNatClampNeg a1) fun Mv4 =>
      lt (si Mv4 0 27 ((Mv4.1 0 27) + 1)) fun Mv5 =>
      ob (f_X8_next n Mv5) fun x6 =>
      lt (x6) fun Mv7 =>
      some (true, Mv7)
    else none
abbrev rm_X8_goesIn : Room := { frames := 3, cells := 0, slots := 0, locals := 61 }
set_option maxRecDepth 100000 in
set_option maxHeartbeats 4000000 in
theorem m_X8_goesIn (l : Launch) (D : va_G) (ca : Nat → ClassId) (am : Nat → Nat) (n : Nat) (M : RowS) (xs : va_W) (a1 : Int32) (res : Bool) (M' : RowS) (h0 : f_X8_goesIn n M a1 = some (res, M')) (sz : Nat) : Met l yX8_goesIn (ws_ yX8_goesIn cX8_goesIn 2 (some .boolean)) rm_X8_goesIn (PCw D ca (wM am ca M ++ xs) sz [.ref (am 0), .int a1]) (QMw D (wM am ca M ++ xs) (wM am ca (M') ++ xs) sz (some (.int (b2i res)))) 0 0 (AL (wM am ca M ++ xs) sz) := by
  refine met_of (by decide) (Nat.le_of_ble_eq_true rfl) (fun p e s m args below meth c K hr0 X hsz ls hl => ?_)
  have K : MC D ca p s m args meth c cX8_goesIn 2 RX8 := K
  have hx := K.1
  have hb := K.2.1
  have hl : lv_has ls 2 [(0, .ref (am 0)), (1, .int a1)] := hl
  generalize hQ : MQ below _ args s 0 0 _ = Q
  unfold f_X8_goesIn at h0
  suffices Z : ∀ (H : Heap) (locs : List Loc) (X : RW D (wM am ca M ++ xs) s.heap H locs), W p l e rm_X8_goesIn s m args below meth c H locs 0 0 Q (F0 m 0 ls []) from Z _ _ X
  intro H locs X
  refine lv_aload_n hx hb dX8_goesIn_0 rfl (lv_at hl 0 rfl) ?_
  refine g_modi K X 28 (by decide) (fun _ _ => rfl) q1427 dX8_goesIn_1 ?_
  refine lv_bipush (v := 6) hx hb dX8_goesIn_4 (by decide) ?_
  refine lv_icmp_ne (tgt := 15) hx hb dX8_goesIn_6 (by decide) (fun c1 => ?_) (fun c1 => ?_)
  · have h0 := if_f c1 h0
    refine lv_aload_n hx hb dX8_goesIn_15 rfl (lv_at hl 0 rfl) ?_
    refine lv_dup hx hb dX8_goesIn_16 rfl ?_
    refine g_modi K X 28 (by decide) (fun _ _ => rfl) q1427 dX8_goesIn_17 ?_
    refine lv_iconst (v := 1) hx hb dX8_goesIn_20 (by decide) ?_
    refine lv_iadd hx hb dX8_goesIn_21 ?_
    obtain ⟨Mv2, eMv2, h0⟩ := lt_out h0
    refine p_modi (ty := .int) K X 28 (by decide) (fun _ _ => rfl) (by decide +kernel) ⟨rfl, rfl⟩ eMv2 q1427 dX8_goesIn_22 (fun H locs X => ?_)
    refine lv_aload_n hx hb dX8_goesIn_25 rfl (lv_at hl 0 rfl) ?_
    refine g_modr K X 24 (by decide) (fun _ _ => rfl) q1423 dX8_goesIn_26 ?_
    refine lv_aload_n hx hb dX8_goesIn_29 rfl (lv_at hl 0 rfl) ?_
    refine g_modi K X 27 (by decide) (fun _ _ => rfl) q1426 dX8_goesIn_30 ?_
    refine lv_iload_n hx hb dX8_goesIn_33 rfl (lv_at hl 1 rfl) ?_
    obtain ⟨c3, h0⟩ := if_o h0
    obtain ⟨Mv4, eMv4, h0⟩ := lt_out h0
    refine s_modi K X 24 12 200 rfl (fun _ => rfl) (inb_vp c3) eMv4 dX8_goesIn_34 (fun H locs X => ?_)
    refine lv_aload_n hx hb dX8_goesIn_35 rfl (lv_at hl 0 rfl) ?_
    refine lv_dup hx hb dX8_goesIn_36 rfl ?_
    refine g_modi K X 27 (by decide) (fun _ _ => rfl) q1426 dX8_goesIn_37 ?_
    refine lv_iconst (v := 1) hx hb dX8_goesIn_40 (by decide) ?_
    refine lv_iadd hx hb dX8_goesIn_41 ?_
    obtain ⟨Mv5, eMv5, h0⟩ := lt_out h0
    refine p_modi (ty := .int) K X 27 (by decide) (fun _ _ => rfl) (by decide +kernel) ⟨rfl, rfl⟩ eMv5 q1426 dX8_goesIn_42 (fun H locs X => ?_)
    refine lv_aload_n hx hb dX8_goesIn_45 rfl (lv_at hl 0 rfl) ?_
    obtain ⟨x6, ex6, h0⟩ := ob_out h0
    obtain ⟨Mv7, eMv7, h0⟩ := lt_out h0
    have kx6 := m_X8_next l D ca am n Mv5 xs x6 ex6 H.size
    rw [← eMv7] at kx6
    refine w_callV0 K X wM_fstx kx6 hl.1 0 q1525 q1527 q25 q97 q1528 hv_X8_next ⟨⟨Nat.le_of_ble_eq_true rfl, Nat.le_of_ble_eq_true rfl⟩, rfl, rfl⟩ pl_modo rfl rfl rfl rfl (Nat.le_of_ble_eq_true rfl) dX8_goesIn_46 ⟨Nat.le_of_ble_eq_true rfl, Nat.le_of_ble_eq_true rfl⟩ rfl (fun H locs X => ?_)
    refine lv_iconst (v := 1) hx hb dX8_goesIn_49 (by decide) ?_
    have h0 := Option.some.inj h0
    obtain ⟨q_0, q_1⟩ := Prod.mk.inj h0
    subst q_0
    subst q_1
    subst hQ
    refine w_int (y := b2i true) (by decide) ?_
    exact w_zret K hr0 X wM_fstx hsz (b2i_nar _) dX8_goesIn_50
  · have h0 := if_t c1 h0
    refine lv_aload_n hx hb dX8_goesIn_9 rfl (lv_at hl 0 rfl) ?_
    refine lv_iconst (v := 3) hx hb dX8_goesIn_10 (by decide) ?_
    obtain ⟨x8, ex8, h0⟩ := lt_out h0
    obtain ⟨Mv9, eMv9, h0⟩ := lt_out h0
    have kx8 := m_X8_wrongs l D ca am M xs 3 x8.1 x8.2 ex8.symm H.size
    rw [← eMv9] at kx8
    refine w_callV0 K X wM_fstx kx8 hl.1 1 q1567 q1569 q33 q97 q1570 hv_X8_wrongs ⟨⟨Nat.le_of_ble_eq_true rfl, Nat.le_of_ble_eq_true rfl⟩, rfl, rfl⟩ pl_modo rfl rfl rfl rfl (Nat.le_of_ble_eq_true rfl) dX8_goesIn_11 ⟨Nat.le_of_ble_eq_true rfl, Nat.le_of_ble_eq_true rfl⟩ rfl (fun H locs X => ?_)
    have h0 := Option.some.inj h0
    obtain ⟨q_0, q_1⟩ := Prod.mk.inj h0
    subst q_0
    subst q_1
    subst hQ
    exact w_zret K hr0 X wM_fstx hsz (b2i_nar _) dX8_goesIn_14
-- X8_strength
def f_X8_strength (a1 : Int32) : Int32 :=
  if a1 = 25 then
    1
  else
    if a1 = 24 then
      2
    else
      if a1 = 23 then
        3
      else
        0
abbrev rm_X8_strength : Room := { frames := 0, cells := 0, slots := 0, locals := 0 }
set_option maxRecDepth 100000 in
set_option maxHeartbeats 4000000 in
theorem m_X8_strength (l : Launch) (D : va_G) (ca : Nat → ClassId) (ws : va_W) (a1 : Int32) (res : Int32) (h0 : f_X8_strength a1 = res) (sz : Nat) : Met l yX8_strength (ws_ yX8_strength cX8_strength 1 (some .int)) rm_X8_strength (PCw D ca (ws) sz [.int a1]) (QMw D (ws) (ws) sz (some (.int res))) 0 0 (AL (ws) sz) := by
  refine met_of (by decide) (Nat.le_of_ble_eq_true rfl) (fun p e s m args below meth c K hr0 X hsz ls hl => ?_)
  have K : MC D ca p s m args meth c cX8_strength 1 RX8 := K
  have hx := K.1
  have hb := K.2.1
  have hl : lv_has ls 1 [(0, .int a1)] := hl
  generalize hQ : MQ below _ args s 0 0 _ = Q
  unfold f_X8_strength at h0
  suffices Z : ∀ (H : Heap) (locs : List Loc) (X : RW D (ws) s.heap H locs), W p l e rm_X8_strength s m args below meth c H locs 0 0 Q (F0 m 0 ls []) from Z _ _ X
  intro H locs X
  refine lv_iload_n hx hb dX8_strength_0 rfl (lv_at hl 0 rfl) ?_
  refine lv_bipush (v := 25) hx hb dX8_strength_1 (by decide) ?_
  refine lv_icmp_ne (tgt := 10) hx hb dX8_strength_3 (by decide) (fun c1 => ?_) (fun c1 => ?_)
  · have h0 := if_f c1 h0
    refine lv_iload_n hx hb dX8_strength_10 rfl (lv_at hl 0 rfl) ?_
    refine lv_bipush (v := 24) hx hb dX8_strength_11 (by decide) ?_
    refine lv_icmp_ne (tgt := 20) hx hb dX8_strength_13 (by decide) (fun c2 => ?_) (fun c2 => ?_)
    · have h0 := if_f c2 h0
      refine lv_iload_n hx hb dX8_strength_20 rfl (lv_at hl 0 rfl) ?_
      refine lv_bipush (v := 23) hx hb dX8_strength_21 (by decide) ?_
      refine lv_icmp_ne (tgt := 30) hx hb dX8_strength_23 (by decide) (fun c3 => ?_) (fun c3 => ?_)
      · have h0 := if_f c3 h0
        refine lv_iconst (v := 0) hx hb dX8_strength_30 (by decide) ?_
        subst h0
        subst hQ
        exact w_iret K hr0 X rfl hsz dX8_strength_31
      · have h0 := if_t c3 h0
        refine lv_iconst (v := 3) hx hb dX8_strength_26 (by decide) ?_
        refine lv_goto (tgt := 31) hx hb dX8_strength_27 (by decide) ?_
        subst h0
        subst hQ
        exact w_iret K hr0 X rfl hsz dX8_strength_31
    · have h0 := if_t c2 h0
      refine lv_iconst (v := 2) hx hb dX8_strength_16 (by decide) ?_
      refine lv_goto (tgt := 31) hx hb dX8_strength_17 (by decide) ?_
      subst h0
      subst hQ
      exact w_iret K hr0 X rfl hsz dX8_strength_31
  · have h0 := if_t c1 h0
    refine lv_iconst (v := 1) hx hb dX8_strength_6 (by decide) ?_
    refine lv_goto (tgt := 31) hx hb dX8_strength_7 (by decide) ?_
    subst h0
    subst hQ
    exact w_iret K hr0 X rfl hsz dX8_strength_31
-- X8_settles_
def b_X8_settles__82  (M_82 : RowS) : Option RowS :=
  some M_82
def l_X8_settles__0 (a1 : Int32) (Mz_0 : RowS) : Option (RowS ⊕ RowS) :=
  lt (f_X8_isGood Mz_0) fun x1 =>
  if x1 = true then
    if (Mz_0.1 0 27) ≤ 0 then
      some (.inr Mz_0)
    else
      if 0 ≤ ((Mz_0.1 0 27) - 1).toInt ∧ ((Mz_0.1 0 27) - 1).toInt < 200 then
        lt (f_X8_strength (Mz_0.1 24 ((Mz_0.1 0 27) - 1).toNatClampNeg)) fun x5 =>
        if x5 < a1 then
          some (.inr Mz_0)
        else
          lt (si Mz_0 0 27 ((Mz_0.1 0 27) - 1)) fun Mv7 =>
          if 0 ≤ (Mv7.1 0 27).toInt ∧ (Mv7.1 0 27).toInt < 200 then
            ob (f_X8_adds Mv7 (Mv7.1 24 (Mv7.1 0 27).toNatClampNeg)) fun x9 =>
            lt (x9) fun Mv10 =>
            if 0 ≤ (Mv10.1 0 27).toInt ∧ (Mv10.1 0 27).toInt < 200 then
              if (Mv10.1 24 (Mv10.1 0 27).toNatClampNeg) = 23 then
                lt (si Mv10 0 28 ((Mv10.1 0 28) - 1)) fun Mv13 =>
                some (.inl Mv13)
              else
                some (.inl Mv10)
            else none
          else none
      else none
  else
    some (.inr Mz_0)
def f_X8_settles_ (n : Nat) (M : RowS) (a1 : Int32) : Option RowS :=
  ob (wloop (fun t => l_X8_settles__0 a1 t) n M) (fun t => b_X8_settles__82 t)
abbrev rm_X8_settles_ : Room := { frames := 1, cells := 0, slots := 0, locals := 21 }
set_option maxRecDepth 100000 in
set_option maxHeartbeats 4000000 in
theorem m_X8_settles_ (l : Launch) (D : va_G) (ca : Nat → ClassId) (am : Nat → Nat) (n : Nat) (M : RowS) (xs : va_W) (a1 : Int32) (M' : RowS) (h0 : f_X8_settles_ n M a1 = some M') (sz : Nat) : Met l yX8_settles_ (ws_ yX8_settles_ cX8_settles_ 2 none) rm_X8_settles_ (PCw D ca (wM am ca M ++ xs) sz [.ref (am 0), .int a1]) (QMw D (wM am ca M ++ xs) (wM am ca (M') ++ xs) sz none) 0 0 (AL (wM am ca M ++ xs) sz) := by
  refine met_of (by decide) (Nat.le_of_ble_eq_true rfl) (fun p e s m args below meth c K hr0 X hsz ls hl => ?_)
  have K : MC D ca p s m args meth c cX8_settles_ 2 RX8 := K
  have hx := K.1
  have hb := K.2.1
  have hl : lv_has ls 2 [(0, .ref (am 0)), (1, .int a1)] := hl
  generalize hQ : MQ below _ args s 0 0 _ = Q
  unfold f_X8_settles_ at h0
  suffices Z : ∀ (H : Heap) (locs : List Loc) (X : RW D (wM am ca M ++ xs) s.heap H locs), W p l e rm_X8_settles_ s m args below meth c H locs 0 0 Q (F0 m 0 ls []) from Z _ _ X
  intro H locs X
  have J82 : ∀ (M_82 : RowS) (H : Heap) (locs : List Loc) (X : RW D (wM am ca M_82 ++ xs) s.heap H locs) (ls : Array Slot) (hl : lv_has ls 2 []) (h0 : b_X8_settles__82 M_82 = some M'), W p l e rm_X8_settles_ s m args below meth c H locs 0 0 Q (F0 m 82 ls []) := by
    intro M_82 H locs X ls hl h0
    unfold b_X8_settles__82 at h0
    have h0 := Option.some.inj h0
    subst h0
    subst hQ
    exact w_vret K hr0 X wM_fstx hsz dX8_settles__82
  obtain ⟨e_1, he1, h0⟩ := ob_out h0
  have K0 : ∀ (k : Nat) (Mz_0 : RowS) (H : Heap) (locs : List Loc) (X : RW D (wM am ca Mz_0 ++ xs) s.heap H locs) (ls : Array Slot) (hl : lv_has ls 2 [(0, .ref (am 0)), (1, .int a1)]) (hw : wloop (fun t => l_X8_settles__0 a1 t) k Mz_0 = some e_1), W p l e rm_X8_settles_ s m args below meth c H locs 0 0 Q (F0 m 0 ls []) := by
    intro k
    induction k with
    | zero => intro Mz_0 H locs X ls hl hw; exact (wloop_0 hw).elim
    | succ k ih1 =>
      intro Mz_0 H locs X ls hl hw
      obtain ⟨x_1, h1, hx1⟩ := wloop_out hw
      have h1 : l_X8_settles__0 a1 Mz_0 = some x_1 := h1
      unfold l_X8_settles__0 at h1
      refine lv_aload_n hx hb dX8_settles__0 rfl (lv_at hl 0 rfl) ?_
      obtain ⟨x1, ex1, h1⟩ := lt_out h1
      have kx1 := m_X8_isGood l D ca am Mz_0 xs x1 ex1.symm H.size
      refine w_callV0 K X wM_fstx kx1 hl.1 0 q1563 q1565 q32 q97 q1566 hv_X8_isGood ⟨⟨Nat.le_of_ble_eq_true rfl, Nat.le_of_ble_eq_true rfl⟩, rfl, rfl⟩ pl_modo rfl rfl rfl rfl (Nat.le_of_ble_eq_true rfl) dX8_settles__1 ⟨Nat.le_of_ble_eq_true rfl, Nat.le_of_ble_eq_true rfl⟩ rfl (fun H locs X => ?_)
      refine w_zeq (tgt := 82) K dX8_settles__4 (by decide) (fun c2 => ?_) (fun c2 => ?_)
      · have h1 := if_f c2 h1
        have q1 := wl_r h1 hx1
        exact J82 Mz_0 H locs X ls (lv_sub hl [] rfl) (by rw [q1] at h0; exact h0)
      · have h1 := if_t c2 h1
        refine lv_aload_n hx hb dX8_settles__7 rfl (lv_at hl 0 rfl) ?_
        refine g_modi K X 27 (by decide) (fun _ _ => rfl) q1426 dX8_settles__8 ?_
        refine lv_if_le (tgt := 82) hx hb dX8_settles__11 (by decide) (fun c3 => ?_) (fun c3 => ?_)
        · have h1 := if_t c3 h1
          have q1 := wl_r h1 hx1
          exact J82 Mz_0 H locs X ls (lv_sub hl [] rfl) (by rw [q1] at h0; exact h0)
        · have h1 := if_f c3 h1
          refine lv_aload_n hx hb dX8_settles__14 rfl (lv_at hl 0 rfl) ?_
          refine g_modr K X 24 (by decide) (fun _ _ => rfl) q1423 dX8_settles__15 ?_
          refine lv_aload_n hx hb dX8_settles__18 rfl (lv_at hl 0 rfl) ?_
          refine g_modi K X 27 (by decide) (fun _ _ => rfl) q1426 dX8_settles__19 ?_
          refine lv_iconst (v := 1) hx hb dX8_settles__22 (by decide) ?_
          refine lv_isub hx hb dX8_settles__23 ?_
          obtain ⟨c4, h1⟩ := if_o h1
          refine a_modi K X 24 12 200 rfl rfl (inb_vp c4) dX8_settles__24 ?_
          obtain ⟨x5, ex5, h1⟩ := lt_out h1
          have kx5 := m_X8_strength l D ca (wM am ca Mz_0 ++ xs) (Mz_0.1 24 ((Mz_0.1 0 27) - 1).toNatClampNeg) x5 ex5.symm H.size
          refine w_callS0 K X wM_fstx kx5 hl.1 1 q1973 q1974 q97 q1975 hs_X8_strength ⟨⟨Nat.le_of_ble_eq_true rfl, Nat.le_of_ble_eq_true rfl⟩, rfl, rfl⟩ rfl rfl (Nat.le_of_ble_eq_true rfl) dX8_settles__25 ⟨Nat.le_of_ble_eq_true rfl, Nat.le_of_ble_eq_true rfl⟩ rfl (fun H locs X => ?_)
          refine lv_iload_n hx hb dX8_settles__28 rfl (lv_at hl 1 rfl) ?_
          refine lv_icmp_lt (tgt := 82) hx hb dX8_settles__29 (by decide) (fun c6 => ?_) (fun c6 => ?_)
          · have h1 := if_t c6 h1
            have q1 := wl_r h1 hx1
            exact J82 Mz_0 H locs X ls (lv_sub hl [] rfl) (by rw [q1] at h0; exact h0)
          · have h1 := if_f c6 h1
            refine lv_aload_n hx hb dX8_settles__32 rfl (lv_at hl 0 rfl) ?_
            refine lv_dup hx hb dX8_settles__33 rfl ?_
            refine g_modi K X 27 (by decide) (fun _ _ => rfl) q1426 dX8_settles__34 ?_
            refine lv_iconst (v := 1) hx hb dX8_settles__37 (by decide) ?_
            refine lv_isub hx hb dX8_settles__38 ?_
            obtain ⟨Mv7, eMv7, h1⟩ := lt_out h1
            refine p_modi (ty := .int) K X 27 (by decide) (fun _ _ => rfl) (by decide +kernel) ⟨rfl, rfl⟩ eMv7 q1426 dX8_settles__39 (fun H locs X => ?_)
            refine lv_aload_n hx hb dX8_settles__42 rfl (lv_at hl 0 rfl) ?_
            refine lv_aload_n hx hb dX8_settles__43 rfl (lv_at hl 0 rfl) ?_
            refine g_modr K X 24 (by decide) (fun _ _ => rfl) q1423 dX8_settles__44 ?_
            refine lv_aload_n hx hb dX8_settles__47 rfl (lv_at hl 0 rfl) ?_
            refine g_modi K X 27 (by decide) (fun _ _ => rfl) q1426 dX8_settles__48 ?_
            obtain ⟨c8, h1⟩ := if_o h1
            refine a_modi K X 24 12 200 rfl rfl (inb_vp c8) dX8_settles__51 ?_
            obtain ⟨x9, ex9, h1⟩ := ob_out h1
            obtain ⟨Mv10, eMv10, h1⟩ := lt_out h1
            have kx9 := m_X8_adds l D ca am Mv7 xs (Mv7.1 24 (Mv7.1 0 27).toNatClampNeg) x9 ex9 H.size
            rw [← eMv10] at kx9
            refine w_callV0 K X wM_fstx kx9 hl.1 1 q1951 q1953 q79 q97 q1954 hv_X8_adds ⟨⟨Nat.le_of_ble_eq_true rfl, Nat.le_of_ble_eq_true rfl⟩, rfl, rfl⟩ pl_modo rfl rfl rfl rfl (Nat.le_of_ble_eq_true rfl) dX8_settles__52 ⟨Nat.le_of_ble_eq_true rfl, Nat.le_of_ble_eq_true rfl⟩ rfl (fun H locs X => ?_)
            refine lv_aload_n hx hb dX8_settles__55 rfl (lv_at hl 0 rfl) ?_
            refine g_modr K X 24 (by decide) (fun _ _ => rfl) q1423 dX8_settles__56 ?_
            refine lv_aload_n hx hb dX8_settles__59 rfl (lv_at hl 0 rfl) ?_
            refine g_modi K X 27 (by decide) (fun _ _ => rfl) q1426 dX8_settles__60 ?_
            obtain ⟨c11, h1⟩ := if_o h1
            refine a_modi K X 24 12 200 rfl rfl (inb_vp c11) dX8_settles__63 ?_
            refine lv_bipush (v := 23) hx hb dX8_settles__64 (by decide) ?_
            refine lv_icmp_ne (tgt := 0) hx hb dX8_settles__66 (by decide) (fun c12 => ?_) (fun c12 => ?_)
            · have h1 := if_f c12 h1
              exact ih1 Mv10 H locs X ls (lv_sub hl [0, 1] rfl) (wl_l h1 hx1)
            · have h1 := if_t c12 h1
              refine lv_aload_n hx hb dX8_settles__69 rfl (lv_at hl 0 rfl) ?_
              refine lv_dup hx hb dX8_settles__70 rfl ?_
              refine g_modi K X 28 (by decide) (fun _ _ => rfl) q1427 dX8_settles__71 ?_
              refine lv_iconst (v := 1) hx hb dX8_settles__74 (by decide) ?_
              refine lv_isub hx hb dX8_settles__75 ?_
              obtain ⟨Mv13, eMv13, h1⟩ := lt_out h1
              refine p_modi (ty := .int) K X 28 (by decide) (fun _ _ => rfl) (by decide +kernel) ⟨rfl, rfl⟩ eMv13 q1427 dX8_settles__76 (fun H locs X => ?_)
              refine lv_goto (tgt := 0) hx hb dX8_settles__79 (by decide) ?_
              exact ih1 Mv13 H locs X ls (lv_sub hl [0, 1] rfl) (wl_l h1 hx1)
  exact K0 n M H locs X ls (lv_sub hl [0, 1] rfl) he1
-- X8_isInside
def b_X8_isInside_28   : Option Bool :=
  some false
def l_X8_isInside_2 (M : RowS) (z2_1 : Int32) : Option (Int32 ⊕ (Unit ⊕ Bool)) :=
  if (M.1 0 27) ≤ z2_1 then
    some (.inr (.inl ()))
  else
    if 0 ≤ z2_1.toInt ∧ z2_1.toInt < 200 then
      if (M.1 24 z2_1.toNatClampNeg) = 1 then
        some (.inr (.inr true))
      else
        lt (z2_1 + 1) fun x4 =>
        some (.inl x4)
    else none
def f_X8_isInside (n : Nat) (M : RowS) : Option Bool :=
  ob (wloop (fun t => l_X8_isInside_2 M t) n 0) (fun t => match t with | .inl t => b_X8_isInside_28 | .inr r => some r)
abbrev rm_X8_isInside : Room := { frames := 0, cells := 0, slots := 0, locals := 0 }
set_option maxRecDepth 100000 in
set_option maxHeartbeats 4000000 in
theorem m_X8_isInside (l : Launch) (D : va_G) (ca : Nat → ClassId) (am : Nat → Nat) (n : Nat) (M : RowS) (xs : va_W) (res : Bool) (h0 : f_X8_isInside n M = some res) (sz : Nat) : Met l yX8_isInside (ws_ yX8_isInside cX8_isInside 2 (some .boolean)) rm_X8_isInside (PCw D ca (wM am ca M ++ xs) sz [.ref (am 0)]) (QMw D (wM am ca M ++ xs) (wM am ca M ++ xs) sz (some (.int (b2i res)))) 0 0 (AL (wM am ca M ++ xs) sz) := by
  refine met_of (by decide) (Nat.le_of_ble_eq_true rfl) (fun p e s m args below meth c K hr0 X hsz ls hl => ?_)
  have K : MC D ca p s m args meth c cX8_isInside 2 RX8 := K
  have hx := K.1
  have hb := K.2.1
  have hl : lv_has ls 2 [(0, .ref (am 0))] := hl
  generalize hQ : MQ below _ args s 0 0 _ = Q
  unfold f_X8_isInside at h0
  suffices Z : ∀ (H : Heap) (locs : List Loc) (X : RW D (wM am ca M ++ xs) s.heap H locs), W p l e rm_X8_isInside s m args below meth c H locs 0 0 Q (F0 m 0 ls []) from Z _ _ X
  intro H locs X
  have J28 : ∀  (H : Heap) (locs : List Loc) (X : RW D (wM am ca M ++ xs) s.heap H locs) (ls : Array Slot) (hl : lv_has ls 2 []) (h0 : b_X8_isInside_28 = some res), W p l e rm_X8_isInside s m args below meth c H locs 0 0 Q (F0 m 28 ls []) := by
    intro  H locs X ls hl h0
    unfold b_X8_isInside_28 at h0
    refine lv_iconst (v := 0) hx hb dX8_isInside_28 (by decide) ?_
    have h0 := Option.some.inj h0
    subst h0
    subst hQ
    refine w_int (y := b2i false) (by decide) ?_
    exact w_zret K hr0 X wM_fstx hsz (b2i_nar _) dX8_isInside_29
  refine lv_iconst (v := 0) hx hb dX8_isInside_0 (by decide) ?_
  refine lv_istore_n (lv' := [(1, .int 0), (0, .ref (am 0))]) hx hb dX8_isInside_1 rfl hl (by decide) rfl (fun ls hl => ?_)
  obtain ⟨e_1, he1, h0⟩ := ob_out h0
  have K2 : ∀ (k : Nat) (z2_1 : Int32) (H : Heap) (locs : List Loc) (X : RW D (wM am ca M ++ xs) s.heap H locs) (ls : Array Slot) (hl : lv_has ls 2 [(0, .ref (am 0)), (1, .int z2_1)]) (hw : wloop (fun t => l_X8_isInside_2 M t) k z2_1 = some e_1), W p l e rm_X8_isInside s m args below meth c H locs 0 0 Q (F0 m 2 ls []) := by
    intro k
    induction k with
    | zero => intro z2_1 H locs X ls hl hw; exact (wloop_0 hw).elim
    | succ k ih1 =>
      intro z2_1 H locs X ls hl hw
      obtain ⟨x_1, h1, hx1⟩ := wloop_out hw
      have h1 : l_X8_isInside_2 M z2_1 = some x_1 := h1
      unfold l_X8_isInside_2 at h1
      refine lv_iload_n hx hb dX8_isInside_2 rfl (lv_at hl 1 rfl) ?_
      refine lv_aload_n hx hb dX8_isInside_3 rfl (lv_at hl 0 rfl) ?_
      refine g_modi K X 27 (by decide) (fun _ _ => rfl) q1426 dX8_isInside_4 ?_
      refine lv_icmp_ge (tgt := 28) hx hb dX8_isInside_7 (by decide) (fun c1 => ?_) (fun c1 => ?_)
      · have h1 := if_t c1 h1
        have q1 := wl_r h1 hx1
        exact J28  H locs X ls (lv_sub hl [] rfl) (by rw [q1] at h0; exact h0)
      · have h1 := if_f c1 h1
        refine lv_aload_n hx hb dX8_isInside_10 rfl (lv_at hl 0 rfl) ?_
        refine g_modr K X 24 (by decide) (fun _ _ => rfl) q1423 dX8_isInside_11 ?_
        refine lv_iload_n hx hb dX8_isInside_14 rfl (lv_at hl 1 rfl) ?_
        obtain ⟨c2, h1⟩ := if_o h1
        refine a_modi K X 24 12 200 rfl rfl (inb_vp c2) dX8_isInside_15 ?_
        refine lv_iconst (v := 1) hx hb dX8_isInside_16 (by decide) ?_
        refine lv_icmp_ne (tgt := 22) hx hb dX8_isInside_17 (by decide) (fun c3 => ?_) (fun c3 => ?_)
        · have h1 := if_f c3 h1
          obtain ⟨x4, ex4, h1⟩ := lt_out h1
          refine lv_iinc (v := x4) (lv' := [(1, .int x4), (0, .ref (am 0))]) hx hb dX8_isInside_22 hl (k := 1) rfl (by rw [ex4]; rfl) (by decide) rfl (fun ls hl => ?_)
          refine lv_goto (tgt := 2) hx hb dX8_isInside_25 (by decide) ?_
          exact ih1 x4 H locs X ls (lv_sub hl [1, 0] rfl) (wl_l h1 hx1)
        · have h1 := if_t c3 h1
          refine lv_iconst (v := 1) hx hb dX8_isInside_20 (by decide) ?_
          have q1 := wl_r h1 hx1
          rw [q1] at h0
          have h0 : some true = some res := h0
          have h0 := Option.some.inj h0
          subst h0
          subst hQ
          refine w_int (y := b2i true) (by decide) ?_
          exact w_zret K hr0 X wM_fstx hsz (b2i_nar _) dX8_isInside_21
  exact K2 n 0 H locs X ls (lv_sub hl [1, 0] rfl) he1
-- X8_comparisonRead
def b_X8_comparisonRead_36 (n : Nat) (y36_s1 : Int32) (M_36 : RowS) : Option (RowS ⊕ (RowS ⊕ RowS)) :=
  ob (f_X8_goesIn n M_36 y36_s1) fun x5 =>
  lt (x5.2) fun Mv6 =>
  if x5.1 = true then
    some (.inl Mv6)
  else
    some (.inr (.inr Mv6))
def b_X8_comparisonRead_19 (n : Nat) (M_19 : RowS) : Option (RowS ⊕ (RowS ⊕ RowS)) :=
  lt (f_X8_isWord M_19 10631) fun x3 =>
  if x3 = true then
    b_X8_comparisonRead_36 n 23 M_19
  else
    b_X8_comparisonRead_36 n 1 M_19
def b_X8_comparisonRead_99 (n : Nat) (y99_l1 : Int32) (M_99 : RowS) : Option RowS :=
  lt (f_X8_isGood M_99) fun x17 =>
  if x17 = true then
    ob (f_X8_next n M_99) fun x19 =>
    lt (x19) fun Mv20 =>
    ob (f_X8_valueRead n Mv20) fun x21 =>
    lt (x21) fun Mv22 =>
    lt (f_X8_isGood Mv22) fun x23 =>
    if x23 = true then
      ob (f_X8_adds Mv22 y99_l1) fun x25 =>
      lt (x25) fun Mv26 =>
      some Mv26
    else
      some Mv22
  else
    some M_99
def b_X8_comparisonRead_77 (n : Nat) (y77_s0 : Int32) (M_77 : RowS) : Option RowS :=
  if y77_s0 = 21 then
    ob (f_X8_isByte M_77 61) fun x27 =>
    if x27 = true then
      b_X8_comparisonRead_99 n y77_s0 M_77
    else
      lt (f_X8_wrongs M_77 1) fun x29 =>
      lt (x29.2) fun Mv30 =>
      b_X8_comparisonRead_99 n y77_s0 Mv30
  else
    b_X8_comparisonRead_99 n y77_s0 M_77
def b_X8_comparisonRead_43 (n : Nat) (M_43 : RowS) : Option RowS :=
  ob (f_X8_valueRead n M_43) fun x10 =>
  lt (x10) fun Mv11 =>
  ob (f_X8_isByte Mv11 60) fun x12 =>
  if x12 = true then
    b_X8_comparisonRead_77 n 20 Mv11
  else
    ob (f_X8_isByte Mv11 62) fun x14 =>
    if x14 = true then
      b_X8_comparisonRead_77 n 22 Mv11
    else
      b_X8_comparisonRead_77 n 21 Mv11
def l_X8_comparisonRead_0 (n : Nat) (Mz_0 : RowS) : Option (RowS ⊕ (RowS ⊕ RowS)) :=
  lt (f_X8_isWord Mz_0 10631) fun x1 =>
  if x1 = true then
    b_X8_comparisonRead_19 n Mz_0
  else
    ob (f_X8_isByte Mz_0 40) fun x8 =>
    if x8 = true then
      b_X8_comparisonRead_19 n Mz_0
    else
      some (.inr (.inl Mz_0))
def f_X8_comparisonRead (n : Nat) (M : RowS) : Option RowS :=
  ob (wloop (fun t => l_X8_comparisonRead_0 n t) n M) (fun t => match t with | .inl t => b_X8_comparisonRead_43 n t | .inr r => some r)
abbrev rm_X8_comparisonRead : Room := { frames := 5, cells := 0, slots := 0, locals := 105 }
set_option maxRecDepth 100000 in
set_option maxHeartbeats 4000000 in
theorem m_X8_comparisonRead (l : Launch) (D : va_G) (ca : Nat → ClassId) (am : Nat → Nat) (n : Nat) (M : RowS) (xs : va_W) (M' : RowS) (h0 : f_X8_comparisonRead n M = some M') (sz : Nat) : Met l yX8_comparisonRead (ws_ yX8_comparisonRead cX8_comparisonRead 2 none) rm_X8_comparisonRead (PCw D ca (wM am ca M ++ xs) sz [.ref (am 0)]) (QMw D (wM am ca M ++ xs) (wM am ca (M') ++ xs) sz none) 0 0 (AL (wM am ca M ++ xs) sz) := by
  refine met_of (by decide) (Nat.le_of_ble_eq_true rfl) (fun p e s m args below meth c K hr0 X hsz ls hl => ?_)
  have K : MC D ca p s m args meth c cX8_comparisonRead 2 RX8 := K
  have hx := K.1
  have hb := K.2.1
  have hl : lv_has ls 2 [(0, .ref (am 0))] := hl
  generalize hQ : MQ below _ args s 0 0 _ = Q
  unfold f_X8_comparisonRead at h0
  suffices Z : ∀ (H : Heap) (locs : List Loc) (X : RW D (wM am ca M ++ xs) s.heap H locs), W p l e rm_X8_comparisonRead s m args below meth c H locs 0 0 Q (F0 m 0 ls []) from Z _ _ X
  intro H locs X
  have J99 : ∀ (y99_l1 : Int32) (M_99 : RowS) (H : Heap) (locs : List Loc) (X : RW D (wM am ca M_99 ++ xs) s.heap H locs) (ls : Array Slot) (hl : lv_has ls 2 [(0, .ref (am 0)), (1, .int y99_l1)]) (h0 : b_X8_comparisonRead_99 n y99_l1 M_99 = some M'), W p l e rm_X8_comparisonRead s m args below meth c H locs 0 0 Q (F0 m 99 ls []) := by
    intro y99_l1 M_99 H locs X ls hl h0
    unfold b_X8_comparisonRead_99 at h0
    refine lv_aload_n hx hb dX8_comparisonRead_99 rfl (lv_at hl 0 rfl) ?_
    obtain ⟨x17, ex17, h0⟩ := lt_out h0
    have kx17 := m_X8_isGood l D ca am M_99 xs x17 ex17.symm H.size
    refine w_callV0 K X wM_fstx kx17 hl.1 0 q1563 q1565 q32 q97 q1566 hv_X8_isGood ⟨⟨Nat.le_of_ble_eq_true rfl, Nat.le_of_ble_eq_true rfl⟩, rfl, rfl⟩ pl_modo rfl rfl rfl rfl (Nat.le_of_ble_eq_true rfl) dX8_comparisonRead_100 ⟨Nat.le_of_ble_eq_true rfl, Nat.le_of_ble_eq_true rfl⟩ rfl (fun H locs X => ?_)
    refine w_zne (tgt := 107) K dX8_comparisonRead_103 (by decide) (fun c18 => ?_) (fun c18 => ?_)
    · have h0 := if_t c18 h0
      refine lv_aload_n hx hb dX8_comparisonRead_107 rfl (lv_at hl 0 rfl) ?_
      obtain ⟨x19, ex19, h0⟩ := ob_out h0
      obtain ⟨Mv20, eMv20, h0⟩ := lt_out h0
      have kx19 := m_X8_next l D ca am n M_99 xs x19 ex19 H.size
      rw [← eMv20] at kx19
      refine w_callV0 K X wM_fstx kx19 hl.1 0 q1525 q1527 q25 q97 q1528 hv_X8_next ⟨⟨Nat.le_of_ble_eq_true rfl, Nat.le_of_ble_eq_true rfl⟩, rfl, rfl⟩ pl_modo rfl rfl rfl rfl (Nat.le_of_ble_eq_true rfl) dX8_comparisonRead_108 ⟨Nat.le_of_ble_eq_true rfl, Nat.le_of_ble_eq_true rfl⟩ rfl (fun H locs X => ?_)
      refine lv_aload_n hx hb dX8_comparisonRead_111 rfl (lv_at hl 0 rfl) ?_
      obtain ⟨x21, ex21, h0⟩ := ob_out h0
      obtain ⟨Mv22, eMv22, h0⟩ := lt_out h0
      have kx21 := m_X8_valueRead l D ca am n Mv20 xs x21 ex21 H.size
      rw [← eMv22] at kx21
      refine w_callV0 K X wM_fstx kx21 hl.1 0 q1946 q1948 q78 q97 q1949 hv_X8_valueRead ⟨⟨Nat.le_of_ble_eq_true rfl, Nat.le_of_ble_eq_true rfl⟩, rfl, rfl⟩ pl_modo rfl rfl rfl rfl (Nat.le_of_ble_eq_true rfl) dX8_comparisonRead_112 ⟨Nat.le_of_ble_eq_true rfl, Nat.le_of_ble_eq_true rfl⟩ rfl (fun H locs X => ?_)
      refine lv_aload_n hx hb dX8_comparisonRead_115 rfl (lv_at hl 0 rfl) ?_
      obtain ⟨x23, ex23, h0⟩ := lt_out h0
      have kx23 := m_X8_isGood l D ca am Mv22 xs x23 ex23.symm H.size
      refine w_callV0 K X wM_fstx kx23 hl.1 0 q1563 q1565 q32 q97 q1566 hv_X8_isGood ⟨⟨Nat.le_of_ble_eq_true rfl, Nat.le_of_ble_eq_true rfl⟩, rfl, rfl⟩ pl_modo rfl rfl rfl rfl (Nat.le_of_ble_eq_true rfl) dX8_comparisonRead_116 ⟨Nat.le_of_ble_eq_true rfl, Nat.le_of_ble_eq_true rfl⟩ rfl (fun H locs X => ?_)
      refine w_zeq (tgt := 127) K dX8_comparisonRead_119 (by decide) (fun c24 => ?_) (fun c24 => ?_)
      · have h0 := if_f c24 h0
        have h0 := Option.some.inj h0
        subst h0
        subst hQ
        exact w_vret K hr0 X wM_fstx hsz dX8_comparisonRead_127
      · have h0 := if_t c24 h0
        refine lv_aload_n hx hb dX8_comparisonRead_122 rfl (lv_at hl 0 rfl) ?_
        refine lv_iload_n hx hb dX8_comparisonRead_123 rfl (lv_at hl 1 rfl) ?_
        obtain ⟨x25, ex25, h0⟩ := ob_out h0
        obtain ⟨Mv26, eMv26, h0⟩ := lt_out h0
        have kx25 := m_X8_adds l D ca am Mv22 xs y99_l1 x25 ex25 H.size
        rw [← eMv26] at kx25
        refine w_callV0 K X wM_fstx kx25 hl.1 1 q1951 q1953 q79 q97 q1954 hv_X8_adds ⟨⟨Nat.le_of_ble_eq_true rfl, Nat.le_of_ble_eq_true rfl⟩, rfl, rfl⟩ pl_modo rfl rfl rfl rfl (Nat.le_of_ble_eq_true rfl) dX8_comparisonRead_124 ⟨Nat.le_of_ble_eq_true rfl, Nat.le_of_ble_eq_true rfl⟩ rfl (fun H locs X => ?_)
        have h0 := Option.some.inj h0
        subst h0
        subst hQ
        exact w_vret K hr0 X wM_fstx hsz dX8_comparisonRead_127
    · have h0 := if_f c18 h0
      have h0 := Option.some.inj h0
      subst h0
      subst hQ
      exact w_vret K hr0 X wM_fstx hsz dX8_comparisonRead_106
  have J77 : ∀ (y77_s0 : Int32) (M_77 : RowS) (H : Heap) (locs : List Loc) (X : RW D (wM am ca M_77 ++ xs) s.heap H locs) (ls : Array Slot) (hl : lv_has ls 2 [(0, .ref (am 0))]) (h0 : b_X8_comparisonRead_77 n y77_s0 M_77 = some M'), W p l e rm_X8_comparisonRead s m args below meth c H locs 0 0 Q (F0 m 77 ls [.int y77_s0]) := by
    intro y77_s0 M_77 H locs X ls hl h0
    unfold b_X8_comparisonRead_77 at h0
    refine lv_istore_n (lv' := [(1, .int y77_s0), (0, .ref (am 0))]) hx hb dX8_comparisonRead_77 rfl hl (by decide) rfl (fun ls hl => ?_)
    refine lv_iload_n hx hb dX8_comparisonRead_78 rfl (lv_at hl 0 rfl) ?_
    refine lv_bipush (v := 21) hx hb dX8_comparisonRead_79 (by decide) ?_
    refine lv_icmp_ne (tgt := 99) hx hb dX8_comparisonRead_81 (by decide) (fun c16 => ?_) (fun c16 => ?_)
    · have h0 := if_f c16 h0
      exact J99 y77_s0 M_77 H locs X ls (lv_sub hl [1, 0] rfl) h0
    · have h0 := if_t c16 h0
      refine lv_aload_n hx hb dX8_comparisonRead_84 rfl (lv_at hl 1 rfl) ?_
      refine lv_bipush (v := 61) hx hb dX8_comparisonRead_85 (by decide) ?_
      obtain ⟨x27, ex27, h0⟩ := ob_out h0
      have kx27 := m_X8_isByte l D ca am M_77 xs 61 x27 ex27 H.size
      refine w_callV0 K X wM_fstx kx27 hl.1 1 q1580 q1582 q36 q97 q1583 hv_X8_isByte ⟨⟨Nat.le_of_ble_eq_true rfl, Nat.le_of_ble_eq_true rfl⟩, rfl, rfl⟩ pl_modo rfl rfl rfl rfl (Nat.le_of_ble_eq_true rfl) dX8_comparisonRead_87 ⟨Nat.le_of_ble_eq_true rfl, Nat.le_of_ble_eq_true rfl⟩ rfl (fun H locs X => ?_)
      refine w_zne (tgt := 99) K dX8_comparisonRead_90 (by decide) (fun c28 => ?_) (fun c28 => ?_)
      · have h0 := if_t c28 h0
        exact J99 y77_s0 M_77 H locs X ls (lv_sub hl [1, 0] rfl) h0
      · have h0 := if_f c28 h0
        refine lv_aload_n hx hb dX8_comparisonRead_93 rfl (lv_at hl 1 rfl) ?_
        refine lv_iconst (v := 1) hx hb dX8_comparisonRead_94 (by decide) ?_
        obtain ⟨x29, ex29, h0⟩ := lt_out h0
        obtain ⟨Mv30, eMv30, h0⟩ := lt_out h0
        have kx29 := m_X8_wrongs l D ca am M_77 xs 1 x29.1 x29.2 ex29.symm H.size
        rw [← eMv30] at kx29
        refine w_callV0 K X wM_fstx kx29 hl.1 1 q1567 q1569 q33 q97 q1570 hv_X8_wrongs ⟨⟨Nat.le_of_ble_eq_true rfl, Nat.le_of_ble_eq_true rfl⟩, rfl, rfl⟩ pl_modo rfl rfl rfl rfl (Nat.le_of_ble_eq_true rfl) dX8_comparisonRead_95 ⟨Nat.le_of_ble_eq_true rfl, Nat.le_of_ble_eq_true rfl⟩ rfl (fun H locs X => ?_)
        refine lv_pop hx hb dX8_comparisonRead_98 rfl ?_
        exact J99 y77_s0 Mv30 H locs X ls (lv_sub hl [1, 0] rfl) h0
  have J43 : ∀ (M_43 : RowS) (H : Heap) (locs : List Loc) (X : RW D (wM am ca M_43 ++ xs) s.heap H locs) (ls : Array Slot) (hl : lv_has ls 2 [(0, .ref (am 0))]) (h0 : b_X8_comparisonRead_43 n M_43 = some M'), W p l e rm_X8_comparisonRead s m args below meth c H locs 0 0 Q (F0 m 43 ls []) := by
    intro M_43 H locs X ls hl h0
    unfold b_X8_comparisonRead_43 at h0
    refine lv_aload_n hx hb dX8_comparisonRead_43 rfl (lv_at hl 0 rfl) ?_
    obtain ⟨x10, ex10, h0⟩ := ob_out h0
    obtain ⟨Mv11, eMv11, h0⟩ := lt_out h0
    have kx10 := m_X8_valueRead l D ca am n M_43 xs x10 ex10 H.size
    rw [← eMv11] at kx10
    refine w_callV0 K X wM_fstx kx10 hl.1 0 q1946 q1948 q78 q97 q1949 hv_X8_valueRead ⟨⟨Nat.le_of_ble_eq_true rfl, Nat.le_of_ble_eq_true rfl⟩, rfl, rfl⟩ pl_modo rfl rfl rfl rfl (Nat.le_of_ble_eq_true rfl) dX8_comparisonRead_44 ⟨Nat.le_of_ble_eq_true rfl, Nat.le_of_ble_eq_true rfl⟩ rfl (fun H locs X => ?_)
    refine lv_aload_n hx hb dX8_comparisonRead_47 rfl (lv_at hl 0 rfl) ?_
    refine lv_bipush (v := 60) hx hb dX8_comparisonRead_48 (by decide) ?_
    obtain ⟨x12, ex12, h0⟩ := ob_out h0
    have kx12 := m_X8_isByte l D ca am Mv11 xs 60 x12 ex12 H.size
    refine w_callV0 K X wM_fstx kx12 hl.1 1 q1580 q1582 q36 q97 q1583 hv_X8_isByte ⟨⟨Nat.le_of_ble_eq_true rfl, Nat.le_of_ble_eq_true rfl⟩, rfl, rfl⟩ pl_modo rfl rfl rfl rfl (Nat.le_of_ble_eq_true rfl) dX8_comparisonRead_50 ⟨Nat.le_of_ble_eq_true rfl, Nat.le_of_ble_eq_true rfl⟩ rfl (fun H locs X => ?_)
    refine w_zeq (tgt := 61) K dX8_comparisonRead_53 (by decide) (fun c13 => ?_) (fun c13 => ?_)
    · have h0 := if_f c13 h0
      refine lv_aload_n hx hb dX8_comparisonRead_61 rfl (lv_at hl 0 rfl) ?_
      refine lv_bipush (v := 62) hx hb dX8_comparisonRead_62 (by decide) ?_
      obtain ⟨x14, ex14, h0⟩ := ob_out h0
      have kx14 := m_X8_isByte l D ca am Mv11 xs 62 x14 ex14 H.size
      refine w_callV0 K X wM_fstx kx14 hl.1 1 q1580 q1582 q36 q97 q1583 hv_X8_isByte ⟨⟨Nat.le_of_ble_eq_true rfl, Nat.le_of_ble_eq_true rfl⟩, rfl, rfl⟩ pl_modo rfl rfl rfl rfl (Nat.le_of_ble_eq_true rfl) dX8_comparisonRead_64 ⟨Nat.le_of_ble_eq_true rfl, Nat.le_of_ble_eq_true rfl⟩ rfl (fun H locs X => ?_)
      refine w_zeq (tgt := 75) K dX8_comparisonRead_67 (by decide) (fun c15 => ?_) (fun c15 => ?_)
      · have h0 := if_f c15 h0
        refine lv_bipush (v := 21) hx hb dX8_comparisonRead_75 (by decide) ?_
        exact J77 21 Mv11 H locs X ls (lv_sub hl [0] rfl) h0
      · have h0 := if_t c15 h0
        refine lv_bipush (v := 22) hx hb dX8_comparisonRead_70 (by decide) ?_
        refine lv_goto (tgt := 77) hx hb dX8_comparisonRead_72 (by decide) ?_
        exact J77 22 Mv11 H locs X ls (lv_sub hl [0] rfl) h0
    · have h0 := if_t c13 h0
      refine lv_bipush (v := 20) hx hb dX8_comparisonRead_56 (by decide) ?_
      refine lv_goto (tgt := 77) hx hb dX8_comparisonRead_58 (by decide) ?_
      exact J77 20 Mv11 H locs X ls (lv_sub hl [0] rfl) h0
  obtain ⟨e_1, he1, h0⟩ := ob_out h0
  have K0 : ∀ (k : Nat) (Mz_0 : RowS) (H : Heap) (locs : List Loc) (X : RW D (wM am ca Mz_0 ++ xs) s.heap H locs) (ls : Array Slot) (hl : lv_has ls 2 [(0, .ref (am 0))]) (hw : wloop (fun t => l_X8_comparisonRead_0 n t) k Mz_0 = some e_1), W p l e rm_X8_comparisonRead s m args below meth c H locs 0 0 Q (F0 m 0 ls []) := by
    intro k
    induction k with
    | zero => intro Mz_0 H locs X ls hl hw; exact (wloop_0 hw).elim
    | succ k ih1 =>
      intro Mz_0 H locs X ls hl hw
      obtain ⟨x_1, h1, hx1⟩ := wloop_out hw
      have h1 : l_X8_comparisonRead_0 n Mz_0 = some x_1 := h1
      unfold l_X8_comparisonRead_0 at h1
      have J36 : ∀ (y36_s1 : Int32) (M_36 : RowS) (H : Heap) (locs : List Loc) (X : RW D (wM am ca M_36 ++ xs) s.heap H locs) (ls : Array Slot) (hl : lv_has ls 2 [(0, .ref (am 0))]) (h1 : b_X8_comparisonRead_36 n y36_s1 M_36 = some x_1), W p l e rm_X8_comparisonRead s m args below meth c H locs 0 0 Q (F0 m 36 ls [.int y36_s1, .ref (am 0)]) := by
        intro y36_s1 M_36 H locs X ls hl h1
        unfold b_X8_comparisonRead_36 at h1
        obtain ⟨x5, ex5, h1⟩ := ob_out h1
        obtain ⟨Mv6, eMv6, h1⟩ := lt_out h1
        have kx5 := m_X8_goesIn l D ca am n M_36 xs y36_s1 x5.1 x5.2 ex5 H.size
        rw [← eMv6] at kx5
        refine w_callV0 K X wM_fstx kx5 hl.1 1 q1942 q1944 q77 q97 q1945 hv_X8_goesIn ⟨⟨Nat.le_of_ble_eq_true rfl, Nat.le_of_ble_eq_true rfl⟩, rfl, rfl⟩ pl_modo rfl rfl rfl rfl (Nat.le_of_ble_eq_true rfl) dX8_comparisonRead_36 ⟨Nat.le_of_ble_eq_true rfl, Nat.le_of_ble_eq_true rfl⟩ rfl (fun H locs X => ?_)
        refine w_zne (tgt := 0) K dX8_comparisonRead_39 (by decide) (fun c7 => ?_) (fun c7 => ?_)
        · have h1 := if_t c7 h1
          exact ih1 Mv6 H locs X ls (lv_sub hl [0] rfl) (wl_l h1 hx1)
        · have h1 := if_f c7 h1
          have q1 := wl_r h1 hx1
          rw [q1] at h0
          have h0 : some Mv6 = some M' := h0
          have h0 := Option.some.inj h0
          subst h0
          subst hQ
          exact w_vret K hr0 X wM_fstx hsz dX8_comparisonRead_42
      have J19 : ∀ (M_19 : RowS) (H : Heap) (locs : List Loc) (X : RW D (wM am ca M_19 ++ xs) s.heap H locs) (ls : Array Slot) (hl : lv_has ls 2 [(0, .ref (am 0))]) (h1 : b_X8_comparisonRead_19 n M_19 = some x_1), W p l e rm_X8_comparisonRead s m args below meth c H locs 0 0 Q (F0 m 19 ls []) := by
        intro M_19 H locs X ls hl h1
        unfold b_X8_comparisonRead_19 at h1
        refine lv_aload_n hx hb dX8_comparisonRead_19 rfl (lv_at hl 0 rfl) ?_
        refine lv_aload_n hx hb dX8_comparisonRead_20 rfl (lv_at hl 0 rfl) ?_
        refine lv_ldc2 hx hb K.2.2.2.1 (K.2.2.2.2.1 _ q1941) dX8_comparisonRead_21 ?_
        obtain ⟨x3, ex3, h1⟩ := lt_out h1
        have kx3 := m_X8_isWord l D ca am M_19 xs 10631 x3 ex3.symm H.size
        refine w_callV0 K X wM_fstx kx3 hl.1 1 q1559 q1561 q31 q97 q1562 hv_X8_isWord ⟨⟨Nat.le_of_ble_eq_true rfl, Nat.le_of_ble_eq_true rfl⟩, rfl, rfl⟩ pl_modo rfl rfl rfl rfl (Nat.le_of_ble_eq_true rfl) dX8_comparisonRead_24 ⟨Nat.le_of_ble_eq_true rfl, Nat.le_of_ble_eq_true rfl⟩ rfl (fun H locs X => ?_)
        refine w_zeq (tgt := 35) K dX8_comparisonRead_27 (by decide) (fun c4 => ?_) (fun c4 => ?_)
        · have h1 := if_f c4 h1
          refine lv_iconst (v := 1) hx hb dX8_comparisonRead_35 (by decide) ?_
          exact J36 1 M_19 H locs X ls (lv_sub hl [0] rfl) h1
        · have h1 := if_t c4 h1
          refine lv_bipush (v := 23) hx hb dX8_comparisonRead_30 (by decide) ?_
          refine lv_goto (tgt := 36) hx hb dX8_comparisonRead_32 (by decide) ?_
          exact J36 23 M_19 H locs X ls (lv_sub hl [0] rfl) h1
      refine lv_aload_n hx hb dX8_comparisonRead_0 rfl (lv_at hl 0 rfl) ?_
      refine lv_ldc2 hx hb K.2.2.2.1 (K.2.2.2.2.1 _ q1941) dX8_comparisonRead_1 ?_
      obtain ⟨x1, ex1, h1⟩ := lt_out h1
      have kx1 := m_X8_isWord l D ca am Mz_0 xs 10631 x1 ex1.symm H.size
      refine w_callV0 K X wM_fstx kx1 hl.1 1 q1559 q1561 q31 q97 q1562 hv_X8_isWord ⟨⟨Nat.le_of_ble_eq_true rfl, Nat.le_of_ble_eq_true rfl⟩, rfl, rfl⟩ pl_modo rfl rfl rfl rfl (Nat.le_of_ble_eq_true rfl) dX8_comparisonRead_4 ⟨Nat.le_of_ble_eq_true rfl, Nat.le_of_ble_eq_true rfl⟩ rfl (fun H locs X => ?_)
      refine w_zne (tgt := 19) K dX8_comparisonRead_7 (by decide) (fun c2 => ?_) (fun c2 => ?_)
      · have h1 := if_t c2 h1
        exact J19 Mz_0 H locs X ls (lv_sub hl [0] rfl) h1
      · have h1 := if_f c2 h1
        refine lv_aload_n hx hb dX8_comparisonRead_10 rfl (lv_at hl 0 rfl) ?_
        refine lv_bipush (v := 40) hx hb dX8_comparisonRead_11 (by decide) ?_
        obtain ⟨x8, ex8, h1⟩ := ob_out h1
        have kx8 := m_X8_isByte l D ca am Mz_0 xs 40 x8 ex8 H.size
        refine w_callV0 K X wM_fstx kx8 hl.1 1 q1580 q1582 q36 q97 q1583 hv_X8_isByte ⟨⟨Nat.le_of_ble_eq_true rfl, Nat.le_of_ble_eq_true rfl⟩, rfl, rfl⟩ pl_modo rfl rfl rfl rfl (Nat.le_of_ble_eq_true rfl) dX8_comparisonRead_13 ⟨Nat.le_of_ble_eq_true rfl, Nat.le_of_ble_eq_true rfl⟩ rfl (fun H locs X => ?_)
        refine w_zeq (tgt := 43) K dX8_comparisonRead_16 (by decide) (fun c9 => ?_) (fun c9 => ?_)
        · have h1 := if_f c9 h1
          have q1 := wl_r h1 hx1
          exact J43 Mz_0 H locs X ls (lv_sub hl [0] rfl) (by rw [q1] at h0; exact h0)
        · have h1 := if_t c9 h1
          exact J19 Mz_0 H locs X ls (lv_sub hl [0] rfl) h1
  exact K0 n M H locs X ls (lv_sub hl [0] rfl) he1
-- X8_closes
def b_X8_closes_58  (M_58 : RowS) : Option RowS :=
  some M_58
def l_X8_closes_5 (n : Nat) (Mz_5 : RowS) : Option (RowS ⊕ RowS) :=
  ob (f_X8_isByte Mz_5 41) fun x3 =>
  if x3 = true then
    ob (f_X8_isInside n Mz_5) fun x5 =>
    if x5 = true then
      ob (f_X8_settles_ n Mz_5 1) fun x7 =>
      lt (x7) fun Mv8 =>
      lt (si Mv8 0 27 ((Mv8.1 0 27) - 1)) fun Mv9 =>
      lt (si Mv9 0 28 ((Mv9.1 0 28) - 1)) fun Mv10 =>
      ob (f_X8_next n Mv10) fun x11 =>
      lt (x11) fun Mv12 =>
      ob (f_X8_settles_ n Mv12 3) fun x13 =>
      lt (x13) fun Mv14 =>
      some (.inl Mv14)
    else
      some (.inr Mz_5)
  else
    some (.inr Mz_5)
def f_X8_closes (n : Nat) (M : RowS) : Option RowS :=
  ob (f_X8_settles_ n M 3) fun x1 =>
  lt (x1) fun Mv2 =>
  ob (wloop (fun t => l_X8_closes_5 n t) n Mv2) (fun t => b_X8_closes_58 t)
abbrev rm_X8_closes : Room := { frames := 3, cells := 0, slots := 0, locals := 61 }
set_option maxRecDepth 100000 in
set_option maxHeartbeats 4000000 in
theorem m_X8_closes (l : Launch) (D : va_G) (ca : Nat → ClassId) (am : Nat → Nat) (n : Nat) (M : RowS) (xs : va_W) (M' : RowS) (h0 : f_X8_closes n M = some M') (sz : Nat) : Met l yX8_closes (ws_ yX8_closes cX8_closes 1 none) rm_X8_closes (PCw D ca (wM am ca M ++ xs) sz [.ref (am 0)]) (QMw D (wM am ca M ++ xs) (wM am ca (M') ++ xs) sz none) 0 0 (AL (wM am ca M ++ xs) sz) := by
  refine met_of (by decide) (Nat.le_of_ble_eq_true rfl) (fun p e s m args below meth c K hr0 X hsz ls hl => ?_)
  have K : MC D ca p s m args meth c cX8_closes 1 RX8 := K
  have hx := K.1
  have hb := K.2.1
  have hl : lv_has ls 1 [(0, .ref (am 0))] := hl
  generalize hQ : MQ below _ args s 0 0 _ = Q
  unfold f_X8_closes at h0
  suffices Z : ∀ (H : Heap) (locs : List Loc) (X : RW D (wM am ca M ++ xs) s.heap H locs), W p l e rm_X8_closes s m args below meth c H locs 0 0 Q (F0 m 0 ls []) from Z _ _ X
  intro H locs X
  have J58 : ∀ (M_58 : RowS) (H : Heap) (locs : List Loc) (X : RW D (wM am ca M_58 ++ xs) s.heap H locs) (ls : Array Slot) (hl : lv_has ls 1 []) (h0 : b_X8_closes_58 M_58 = some M'), W p l e rm_X8_closes s m args below meth c H locs 0 0 Q (F0 m 58 ls []) := by
    intro M_58 H locs X ls hl h0
    unfold b_X8_closes_58 at h0
    have h0 := Option.some.inj h0
    subst h0
    subst hQ
    exact w_vret K hr0 X wM_fstx hsz dX8_closes_58
  refine lv_aload_n hx hb dX8_closes_0 rfl (lv_at hl 0 rfl) ?_
  refine lv_iconst (v := 3) hx hb dX8_closes_1 (by decide) ?_
  obtain ⟨x1, ex1, h0⟩ := ob_out h0
  obtain ⟨Mv2, eMv2, h0⟩ := lt_out h0
  have kx1 := m_X8_settles_ l D ca am n M xs 3 x1 ex1 H.size
  rw [← eMv2] at kx1
  refine w_callV0 K X wM_fstx kx1 hl.1 1 q1969 q1971 q82 q97 q1972 hv_X8_settles_ ⟨⟨Nat.le_of_ble_eq_true rfl, Nat.le_of_ble_eq_true rfl⟩, rfl, rfl⟩ pl_modo rfl rfl rfl rfl (Nat.le_of_ble_eq_true rfl) dX8_closes_2 ⟨Nat.le_of_ble_eq_true rfl, Nat.le_of_ble_eq_true rfl⟩ rfl (fun H locs X => ?_)
  obtain ⟨e_1, he1, h0⟩ := ob_out h0
  have K5 : ∀ (k : Nat) (Mz_5 : RowS) (H : Heap) (locs : List Loc) (X : RW D (wM am ca Mz_5 ++ xs) s.heap H locs) (ls : Array Slot) (hl : lv_has ls 1 [(0, .ref (am 0))]) (hw : wloop (fun t => l_X8_closes_5 n t) k Mz_5 = some e_1), W p l e rm_X8_closes s m args below meth c H locs 0 0 Q (F0 m 5 ls []) := by
    intro k
    induction k with
    | zero => intro Mz_5 H locs X ls hl hw; exact (wloop_0 hw).elim
    | succ k ih1 =>
      intro Mz_5 H locs X ls hl hw
      obtain ⟨x_1, h1, hx1⟩ := wloop_out hw
      have h1 : l_X8_closes_5 n Mz_5 = some x_1 := h1
      unfold l_X8_closes_5 at h1
      refine lv_aload_n hx hb dX8_closes_5 rfl (lv_at hl 0 rfl) ?_
      refine lv_bipush (v := 41) hx hb dX8_closes_6 (by decide) ?_
      obtain ⟨x3, ex3, h1⟩ := ob_out h1
      have kx3 := m_X8_isByte l D ca am Mz_5 xs 41 x3 ex3 H.size
      refine w_callV0 K X wM_fstx kx3 hl.1 1 q1580 q1582 q36 q97 q1583 hv_X8_isByte ⟨⟨Nat.le_of_ble_eq_true rfl, Nat.le_of_ble_eq_true rfl⟩, rfl, rfl⟩ pl_modo rfl rfl rfl rfl (Nat.le_of_ble_eq_true rfl) dX8_closes_8 ⟨Nat.le_of_ble_eq_true rfl, Nat.le_of_ble_eq_true rfl⟩ rfl (fun H locs X => ?_)
      refine w_zeq (tgt := 58) K dX8_closes_11 (by decide) (fun c4 => ?_) (fun c4 => ?_)
      · have h1 := if_f c4 h1
        have q1 := wl_r h1 hx1
        exact J58 Mz_5 H locs X ls (lv_sub hl [] rfl) (by rw [q1] at h0; exact h0)
      · have h1 := if_t c4 h1
        refine lv_aload_n hx hb dX8_closes_14 rfl (lv_at hl 0 rfl) ?_
        obtain ⟨x5, ex5, h1⟩ := ob_out h1
        have kx5 := m_X8_isInside l D ca am n Mz_5 xs x5 ex5 H.size
        refine w_callV0 K X wM_fstx kx5 hl.1 0 q1976 q1978 q83 q97 q1979 hv_X8_isInside ⟨⟨Nat.le_of_ble_eq_true rfl, Nat.le_of_ble_eq_true rfl⟩, rfl, rfl⟩ pl_modo rfl rfl rfl rfl (Nat.le_of_ble_eq_true rfl) dX8_closes_15 ⟨Nat.le_of_ble_eq_true rfl, Nat.le_of_ble_eq_true rfl⟩ rfl (fun H locs X => ?_)
        refine w_zeq (tgt := 58) K dX8_closes_18 (by decide) (fun c6 => ?_) (fun c6 => ?_)
        · have h1 := if_f c6 h1
          have q1 := wl_r h1 hx1
          exact J58 Mz_5 H locs X ls (lv_sub hl [] rfl) (by rw [q1] at h0; exact h0)
        · have h1 := if_t c6 h1
          refine lv_aload_n hx hb dX8_closes_21 rfl (lv_at hl 0 rfl) ?_
          refine lv_iconst (v := 1) hx hb dX8_closes_22 (by decide) ?_
          obtain ⟨x7, ex7, h1⟩ := ob_out h1
          obtain ⟨Mv8, eMv8, h1⟩ := lt_out h1
          have kx7 := m_X8_settles_ l D ca am n Mz_5 xs 1 x7 ex7 H.size
          rw [← eMv8] at kx7
          refine w_callV0 K X wM_fstx kx7 hl.1 1 q1969 q1971 q82 q97 q1972 hv_X8_settles_ ⟨⟨Nat.le_of_ble_eq_true rfl, Nat.le_of_ble_eq_true rfl⟩, rfl, rfl⟩ pl_modo rfl rfl rfl rfl (Nat.le_of_ble_eq_true rfl) dX8_closes_23 ⟨Nat.le_of_ble_eq_true rfl, Nat.le_of_ble_eq_true rfl⟩ rfl (fun H locs X => ?_)
          refine lv_aload_n hx hb dX8_closes_26 rfl (lv_at hl 0 rfl) ?_
          refine lv_dup hx hb dX8_closes_27 rfl ?_
          refine g_modi K X 27 (by decide) (fun _ _ => rfl) q1426 dX8_closes_28 ?_
          refine lv_iconst (v := 1) hx hb dX8_closes_31 (by decide) ?_
          refine lv_isub hx hb dX8_closes_32 ?_
          obtain ⟨Mv9, eMv9, h1⟩ := lt_out h1
          refine p_modi (ty := .int) K X 27 (by decide) (fun _ _ => rfl) (by decide +kernel) ⟨rfl, rfl⟩ eMv9 q1426 dX8_closes_33 (fun H locs X => ?_)
          refine lv_aload_n hx hb dX8_closes_36 rfl (lv_at hl 0 rfl) ?_
          refine lv_dup hx hb dX8_closes_37 rfl ?_
          refine g_modi K X 28 (by decide) (fun _ _ => rfl) q1427 dX8_closes_38 ?_
          refine lv_iconst (v := 1) hx hb dX8_closes_41 (by decide) ?_
          refine lv_isub hx hb dX8_closes_42 ?_
          obtain ⟨Mv10, eMv10, h1⟩ := lt_out h1
          refine p_modi (ty := .int) K X 28 (by decide) (fun _ _ => rfl) (by decide +kernel) ⟨rfl, rfl⟩ eMv10 q1427 dX8_closes_43 (fun H locs X => ?_)
          refine lv_aload_n hx hb dX8_closes_46 rfl (lv_at hl 0 rfl) ?_
          obtain ⟨x11, ex11, h1⟩ := ob_out h1
          obtain ⟨Mv12, eMv12, h1⟩ := lt_out h1
          have kx11 := m_X8_next l D ca am n Mv10 xs x11 ex11 H.size
          rw [← eMv12] at kx11
          refine w_callV0 K X wM_fstx kx11 hl.1 0 q1525 q1527 q25 q97 q1528 hv_X8_next ⟨⟨Nat.le_of_ble_eq_true rfl, Nat.le_of_ble_eq_true rfl⟩, rfl, rfl⟩ pl_modo rfl rfl rfl rfl (Nat.le_of_ble_eq_true rfl) dX8_closes_47 ⟨Nat.le_of_ble_eq_true rfl, Nat.le_of_ble_eq_true rfl⟩ rfl (fun H locs X => ?_)
          refine lv_aload_n hx hb dX8_closes_50 rfl (lv_at hl 0 rfl) ?_
          refine lv_iconst (v := 3) hx hb dX8_closes_51 (by decide) ?_
          obtain ⟨x13, ex13, h1⟩ := ob_out h1
          obtain ⟨Mv14, eMv14, h1⟩ := lt_out h1
          have kx13 := m_X8_settles_ l D ca am n Mv12 xs 3 x13 ex13 H.size
          rw [← eMv14] at kx13
          refine w_callV0 K X wM_fstx kx13 hl.1 1 q1969 q1971 q82 q97 q1972 hv_X8_settles_ ⟨⟨Nat.le_of_ble_eq_true rfl, Nat.le_of_ble_eq_true rfl⟩, rfl, rfl⟩ pl_modo rfl rfl rfl rfl (Nat.le_of_ble_eq_true rfl) dX8_closes_52 ⟨Nat.le_of_ble_eq_true rfl, Nat.le_of_ble_eq_true rfl⟩ rfl (fun H locs X => ?_)
          refine lv_goto (tgt := 5) hx hb dX8_closes_55 (by decide) ?_
          exact ih1 Mv14 H locs X ls (lv_sub hl [0] rfl) (wl_l h1 hx1)
  exact K5 n Mv2 H locs X ls (lv_sub hl [0] rfl) he1
-- X8_reads
def b_X8_reads_151 (n : Nat) (M_151 : RowS) : Option RowS :=
  ob (f_X8_settles_ n M_151 1) fun x8 =>
  lt (x8) fun Mv9 =>
  some Mv9
def b_X8_reads_145 (n : Nat) (M_145 : RowS) : Option RowS :=
  lt (f_X8_wrongs M_145 1) fun x12 =>
  lt (x12.2) fun Mv13 =>
  b_X8_reads_151 n Mv13
def b_X8_reads_124 (n : Nat) (M_124 : RowS) : Option RowS :=
  lt (f_X8_isGood M_124) fun x6 =>
  if x6 = true then
    ob (f_X8_isInside n M_124) fun x10 =>
    if x10 = true then
      b_X8_reads_145 n M_124
    else
      if (M_124.1 0 16) = 0 then
        b_X8_reads_151 n M_124
      else
        b_X8_reads_145 n M_124
  else
    b_X8_reads_151 n M_124
def b_X8_reads_81 (n : Nat) (y81_l2 : Int32) (y81_s0 : Int32) (M_81 : RowS) : Option ((Int32 × RowS) ⊕ (RowS ⊕ RowS)) :=
  if y81_s0 = 0 then
    some (.inl (y81_s0, M_81))
  else
    lt (f_X8_strength y81_l2) fun x27 =>
    ob (f_X8_settles_ n M_81 x27) fun x28 =>
    lt (x28) fun Mv29 =>
    if 0 ≤ (Mv29.1 0 27).toInt ∧ (Mv29.1 0 27).toInt < 200 then
      lt (si Mv29 24 (Mv29.1 0 27).toNatClampNeg y81_l2) fun Mv31 =>
      lt (si Mv31 0 27 ((Mv31.1 0 27) + 1)) fun Mv32 =>
      ob (f_X8_next n Mv32) fun x33 =>
      lt (x33) fun Mv34 =>
      some (.inl (y81_s0, Mv34))
    else none
def b_X8_reads_71 (n : Nat) (y71_s0 : Int32) (M_71 : RowS) : Option ((Int32 × RowS) ⊕ (RowS ⊕ RowS)) :=
  if y71_s0 = 0 then
    b_X8_reads_81 n y71_s0 0 M_71
  else
    b_X8_reads_81 n y71_s0 1 M_71
def l_X8_reads_20 (n : Nat) (z20_1 : Int32) (Mz_20 : RowS) : Option ((Int32 × RowS) ⊕ (RowS ⊕ RowS)) :=
  if z20_1 = 0 then
    some (.inr (.inl Mz_20))
  else
    ob (f_X8_comparisonRead n Mz_20) fun x15 =>
    lt (x15) fun Mv16 =>
    lt (f_X8_isGood Mv16) fun x17 =>
    if x17 = true then
      ob (f_X8_closes n Mv16) fun x19 =>
      lt (x19) fun Mv20 =>
      lt (f_X8_isWord Mv20 1111) fun x21 =>
      if x21 = true then
        b_X8_reads_71 n 24 Mv20
      else
        lt (f_X8_isWord Mv20 423) fun x23 =>
        if x23 = true then
          b_X8_reads_71 n 25 Mv20
        else
          b_X8_reads_71 n 0 Mv20
    else
      some (.inr (.inr Mv16))
def f_X8_reads (n : Nat) (M : RowS) : Option RowS :=
  lt (si M 0 26 0) fun Mv1 =>
  lt (si Mv1 0 28 0) fun Mv2 =>
  lt (si Mv2 0 27 0) fun Mv3 =>
  lt (f_X8_isGood Mv3) fun x4 =>
  ob (wloop (fun t => l_X8_reads_20 n t.1 t.2) n ((b2i x4), Mv3)) (fun t => match t with | .inl t => b_X8_reads_124 n t | .inr r => some r)
abbrev rm_X8_reads : Room := { frames := 6, cells := 0, slots := 0, locals := 126 }
set_option maxRecDepth 100000 in
set_option maxHeartbeats 4000000 in
theorem m_X8_reads (l : Launch) (D : va_G) (ca : Nat → ClassId) (am : Nat → Nat) (n : Nat) (M : RowS) (xs : va_W) (M' : RowS) (h0 : f_X8_reads n M = some M') (sz : Nat) : Met l yX8_reads (ws_ yX8_reads cX8_reads 3 none) rm_X8_reads (PCw D ca (wM am ca M ++ xs) sz [.ref (am 0)]) (QMw D (wM am ca M ++ xs) (wM am ca (M') ++ xs) sz none) 0 0 (AL (wM am ca M ++ xs) sz) := by
  refine met_of (by decide) (Nat.le_of_ble_eq_true rfl) (fun p e s m args below meth c K hr0 X hsz ls hl => ?_)
  have K : MC D ca p s m args meth c cX8_reads 3 RX8 := K
  have hx := K.1
  have hb := K.2.1
  have hl : lv_has ls 3 [(0, .ref (am 0))] := hl
  generalize hQ : MQ below _ args s 0 0 _ = Q
  unfold f_X8_reads at h0
  suffices Z : ∀ (H : Heap) (locs : List Loc) (X : RW D (wM am ca M ++ xs) s.heap H locs), W p l e rm_X8_reads s m args below meth c H locs 0 0 Q (F0 m 0 ls []) from Z _ _ X
  intro H locs X
  have J151 : ∀ (M_151 : RowS) (H : Heap) (locs : List Loc) (X : RW D (wM am ca M_151 ++ xs) s.heap H locs) (ls : Array Slot) (hl : lv_has ls 3 [(0, .ref (am 0))]) (h0 : b_X8_reads_151 n M_151 = some M'), W p l e rm_X8_reads s m args below meth c H locs 0 0 Q (F0 m 151 ls []) := by
    intro M_151 H locs X ls hl h0
    unfold b_X8_reads_151 at h0
    refine lv_aload_n hx hb dX8_reads_151 rfl (lv_at hl 0 rfl) ?_
    refine lv_iconst (v := 1) hx hb dX8_reads_152 (by decide) ?_
    obtain ⟨x8, ex8, h0⟩ := ob_out h0
    obtain ⟨Mv9, eMv9, h0⟩ := lt_out h0
    have kx8 := m_X8_settles_ l D ca am n M_151 xs 1 x8 ex8 H.size
    rw [← eMv9] at kx8
    refine w_callV0 K X wM_fstx kx8 hl.1 1 q1969 q1971 q82 q97 q1972 hv_X8_settles_ ⟨⟨Nat.le_of_ble_eq_true rfl, Nat.le_of_ble_eq_true rfl⟩, rfl, rfl⟩ pl_modo rfl rfl rfl rfl (Nat.le_of_ble_eq_true rfl) dX8_reads_153 ⟨Nat.le_of_ble_eq_true rfl, Nat.le_of_ble_eq_true rfl⟩ rfl (fun H locs X => ?_)
    have h0 := Option.some.inj h0
    subst h0
    subst hQ
    exact w_vret K hr0 X wM_fstx hsz dX8_reads_156
  have J145 : ∀ (M_145 : RowS) (H : Heap) (locs : List Loc) (X : RW D (wM am ca M_145 ++ xs) s.heap H locs) (ls : Array Slot) (hl : lv_has ls 3 [(0, .ref (am 0))]) (h0 : b_X8_reads_145 n M_145 = some M'), W p l e rm_X8_reads s m args below meth c H locs 0 0 Q (F0 m 145 ls []) := by
    intro M_145 H locs X ls hl h0
    unfold b_X8_reads_145 at h0
    refine lv_aload_n hx hb dX8_reads_145 rfl (lv_at hl 0 rfl) ?_
    refine lv_iconst (v := 1) hx hb dX8_reads_146 (by decide) ?_
    obtain ⟨x12, ex12, h0⟩ := lt_out h0
    obtain ⟨Mv13, eMv13, h0⟩ := lt_out h0
    have kx12 := m_X8_wrongs l D ca am M_145 xs 1 x12.1 x12.2 ex12.symm H.size
    rw [← eMv13] at kx12
    refine w_callV0 K X wM_fstx kx12 hl.1 1 q1567 q1569 q33 q97 q1570 hv_X8_wrongs ⟨⟨Nat.le_of_ble_eq_true rfl, Nat.le_of_ble_eq_true rfl⟩, rfl, rfl⟩ pl_modo rfl rfl rfl rfl (Nat.le_of_ble_eq_true rfl) dX8_reads_147 ⟨Nat.le_of_ble_eq_true rfl, Nat.le_of_ble_eq_true rfl⟩ rfl (fun H locs X => ?_)
    refine lv_pop hx hb dX8_reads_150 rfl ?_
    exact J151 Mv13 H locs X ls (lv_sub hl [0] rfl) h0
  have J124 : ∀ (M_124 : RowS) (H : Heap) (locs : List Loc) (X : RW D (wM am ca M_124 ++ xs) s.heap H locs) (ls : Array Slot) (hl : lv_has ls 3 [(0, .ref (am 0))]) (h0 : b_X8_reads_124 n M_124 = some M'), W p l e rm_X8_reads s m args below meth c H locs 0 0 Q (F0 m 124 ls []) := by
    intro M_124 H locs X ls hl h0
    unfold b_X8_reads_124 at h0
    refine lv_aload_n hx hb dX8_reads_124 rfl (lv_at hl 0 rfl) ?_
    obtain ⟨x6, ex6, h0⟩ := lt_out h0
    have kx6 := m_X8_isGood l D ca am M_124 xs x6 ex6.symm H.size
    refine w_callV0 K X wM_fstx kx6 hl.1 0 q1563 q1565 q32 q97 q1566 hv_X8_isGood ⟨⟨Nat.le_of_ble_eq_true rfl, Nat.le_of_ble_eq_true rfl⟩, rfl, rfl⟩ pl_modo rfl rfl rfl rfl (Nat.le_of_ble_eq_true rfl) dX8_reads_125 ⟨Nat.le_of_ble_eq_true rfl, Nat.le_of_ble_eq_true rfl⟩ rfl (fun H locs X => ?_)
    refine w_zeq (tgt := 151) K dX8_reads_128 (by decide) (fun c7 => ?_) (fun c7 => ?_)
    · have h0 := if_f c7 h0
      exact J151 M_124 H locs X ls (lv_sub hl [0] rfl) h0
    · have h0 := if_t c7 h0
      refine lv_aload_n hx hb dX8_reads_131 rfl (lv_at hl 0 rfl) ?_
      obtain ⟨x10, ex10, h0⟩ := ob_out h0
      have kx10 := m_X8_isInside l D ca am n M_124 xs x10 ex10 H.size
      refine w_callV0 K X wM_fstx kx10 hl.1 0 q1976 q1978 q83 q97 q1979 hv_X8_isInside ⟨⟨Nat.le_of_ble_eq_true rfl, Nat.le_of_ble_eq_true rfl⟩, rfl, rfl⟩ pl_modo rfl rfl rfl rfl (Nat.le_of_ble_eq_true rfl) dX8_reads_132 ⟨Nat.le_of_ble_eq_true rfl, Nat.le_of_ble_eq_true rfl⟩ rfl (fun H locs X => ?_)
      refine w_zne (tgt := 145) K dX8_reads_135 (by decide) (fun c11 => ?_) (fun c11 => ?_)
      · have h0 := if_t c11 h0
        exact J145 M_124 H locs X ls (lv_sub hl [0] rfl) h0
      · have h0 := if_f c11 h0
        refine lv_aload_n hx hb dX8_reads_138 rfl (lv_at hl 0 rfl) ?_
        refine g_modi K X 16 (by decide) (fun _ _ => rfl) q1415 dX8_reads_139 ?_
        refine lv_if_eq (tgt := 151) hx hb dX8_reads_142 (by decide) (fun c14 => ?_) (fun c14 => ?_)
        · have h0 := if_t c14 h0
          exact J151 M_124 H locs X ls (lv_sub hl [0] rfl) h0
        · have h0 := if_f c14 h0
          exact J145 M_124 H locs X ls (lv_sub hl [0] rfl) h0
  refine lv_aload_n hx hb dX8_reads_0 rfl (lv_at hl 0 rfl) ?_
  refine lv_iconst (v := 0) hx hb dX8_reads_1 (by decide) ?_
  obtain ⟨Mv1, eMv1, h0⟩ := lt_out h0
  refine p_modi (ty := .int) K X 26 (by decide) (fun _ _ => rfl) (by decide +kernel) ⟨rfl, rfl⟩ eMv1 q1425 dX8_reads_2 (fun H locs X => ?_)
  refine lv_aload_n hx hb dX8_reads_5 rfl (lv_at hl 0 rfl) ?_
  refine lv_iconst (v := 0) hx hb dX8_reads_6 (by decide) ?_
  obtain ⟨Mv2, eMv2, h0⟩ := lt_out h0
  refine p_modi (ty := .int) K X 28 (by decide) (fun _ _ => rfl) (by decide +kernel) ⟨rfl, rfl⟩ eMv2 q1427 dX8_reads_7 (fun H locs X => ?_)
  refine lv_aload_n hx hb dX8_reads_10 rfl (lv_at hl 0 rfl) ?_
  refine lv_iconst (v := 0) hx hb dX8_reads_11 (by decide) ?_
  obtain ⟨Mv3, eMv3, h0⟩ := lt_out h0
  refine p_modi (ty := .int) K X 27 (by decide) (fun _ _ => rfl) (by decide +kernel) ⟨rfl, rfl⟩ eMv3 q1426 dX8_reads_12 (fun H locs X => ?_)
  refine lv_aload_n hx hb dX8_reads_15 rfl (lv_at hl 0 rfl) ?_
  obtain ⟨x4, ex4, h0⟩ := lt_out h0
  have kx4 := m_X8_isGood l D ca am Mv3 xs x4 ex4.symm H.size
  refine w_callV0 K X wM_fstx kx4 hl.1 0 q1563 q1565 q32 q97 q1566 hv_X8_isGood ⟨⟨Nat.le_of_ble_eq_true rfl, Nat.le_of_ble_eq_true rfl⟩, rfl, rfl⟩ pl_modo rfl rfl rfl rfl (Nat.le_of_ble_eq_true rfl) dX8_reads_16 ⟨Nat.le_of_ble_eq_true rfl, Nat.le_of_ble_eq_true rfl⟩ rfl (fun H locs X => ?_)
  refine lv_istore_n (lv' := [(1, .int (b2i x4)), (0, .ref (am 0))]) hx hb dX8_reads_19 rfl hl (by decide) rfl (fun ls hl => ?_)
  obtain ⟨e_1, he1, h0⟩ := ob_out h0
  have K20 : ∀ (k : Nat) (z20_1 : Int32) (Mz_20 : RowS) (H : Heap) (locs : List Loc) (X : RW D (wM am ca Mz_20 ++ xs) s.heap H locs) (ls : Array Slot) (hl : lv_has ls 3 [(0, .ref (am 0)), (1, .int z20_1)]) (hw : wloop (fun t => l_X8_reads_20 n t.1 t.2) k (z20_1, Mz_20) = some e_1), W p l e rm_X8_reads s m args below meth c H locs 0 0 Q (F0 m 20 ls []) := by
    intro k
    induction k with
    | zero => intro z20_1 Mz_20 H locs X ls hl hw; exact (wloop_0 hw).elim
    | succ k ih1 =>
      intro z20_1 Mz_20 H locs X ls hl hw
      obtain ⟨x_1, h1, hx1⟩ := wloop_out hw
      have h1 : l_X8_reads_20 n z20_1 Mz_20 = some x_1 := h1
      unfold l_X8_reads_20 at h1
      have J81 : ∀ (y81_l2 : Int32) (y81_s0 : Int32) (M_81 : RowS) (H : Heap) (locs : List Loc) (X : RW D (wM am ca M_81 ++ xs) s.heap H locs) (ls : Array Slot) (hl : lv_has ls 3 [(0, .ref (am 0)), (2, .int y81_l2)]) (h1 : b_X8_reads_81 n y81_l2 y81_s0 M_81 = some x_1), W p l e rm_X8_reads s m args below meth c H locs 0 0 Q (F0 m 81 ls [.int y81_s0]) := by
        intro y81_l2 y81_s0 M_81 H locs X ls hl h1
        unfold b_X8_reads_81 at h1
        refine lv_istore_n (lv' := [(1, .int y81_s0), (0, .ref (am 0)), (2, .int y81_l2)]) hx hb dX8_reads_81 rfl hl (by decide) rfl (fun ls hl => ?_)
        refine lv_iload_n hx hb dX8_reads_82 rfl (lv_at hl 0 rfl) ?_
        refine lv_if_ne (tgt := 89) hx hb dX8_reads_83 (by decide) (fun c26 => ?_) (fun c26 => ?_)
        · have h1 := if_f c26 h1
          refine lv_aload_n hx hb dX8_reads_89 rfl (lv_at hl 1 rfl) ?_
          refine lv_iload_n hx hb dX8_reads_90 rfl (lv_at hl 2 rfl) ?_
          obtain ⟨x27, ex27, h1⟩ := lt_out h1
          have kx27 := m_X8_strength l D ca (wM am ca M_81 ++ xs) y81_l2 x27 ex27.symm H.size
          refine w_callS0 K X wM_fstx kx27 hl.1 1 q1973 q1974 q97 q1975 hs_X8_strength ⟨⟨Nat.le_of_ble_eq_true rfl, Nat.le_of_ble_eq_true rfl⟩, rfl, rfl⟩ rfl rfl (Nat.le_of_ble_eq_true rfl) dX8_reads_91 ⟨Nat.le_of_ble_eq_true rfl, Nat.le_of_ble_eq_true rfl⟩ rfl (fun H locs X => ?_)
          obtain ⟨x28, ex28, h1⟩ := ob_out h1
          obtain ⟨Mv29, eMv29, h1⟩ := lt_out h1
          have kx28 := m_X8_settles_ l D ca am n M_81 xs x27 x28 ex28 H.size
          rw [← eMv29] at kx28
          refine w_callV0 K X wM_fstx kx28 hl.1 1 q1969 q1971 q82 q97 q1972 hv_X8_settles_ ⟨⟨Nat.le_of_ble_eq_true rfl, Nat.le_of_ble_eq_true rfl⟩, rfl, rfl⟩ pl_modo rfl rfl rfl rfl (Nat.le_of_ble_eq_true rfl) dX8_reads_94 ⟨Nat.le_of_ble_eq_true rfl, Nat.le_of_ble_eq_true rfl⟩ rfl (fun H locs X => ?_)
          refine lv_aload_n hx hb dX8_reads_97 rfl (lv_at hl 1 rfl) ?_
          refine g_modr K X 24 (by decide) (fun _ _ => rfl) q1423 dX8_reads_98 ?_
          refine lv_aload_n hx hb dX8_reads_101 rfl (lv_at hl 1 rfl) ?_
          refine g_modi K X 27 (by decide) (fun _ _ => rfl) q1426 dX8_reads_102 ?_
          refine lv_iload_n hx hb dX8_reads_105 rfl (lv_at hl 2 rfl) ?_
          obtain ⟨c30, h1⟩ := if_o h1
          obtain ⟨Mv31, eMv31, h1⟩ := lt_out h1
          refine s_modi K X 24 12 200 rfl (fun _ => rfl) (inb_vp c30) eMv31 dX8_reads_106 (fun H locs X => ?_)
          refine lv_aload_n hx hb dX8_reads_107 rfl (lv_at hl 1 rfl) ?_
          refine lv_dup hx hb dX8_reads_108 rfl ?_
          refine g_modi K X 27 (by decide) (fun _ _ => rfl) q1426 dX8_reads_109 ?_
          refine lv_iconst (v := 1) hx hb dX8_reads_112 (by decide) ?_
          refine lv_iadd hx hb dX8_reads_113 ?_
          obtain ⟨Mv32, eMv32, h1⟩ := lt_out h1
          refine p_modi (ty := .int) K X 27 (by decide) (fun _ _ => rfl) (by decide +kernel) ⟨rfl, rfl⟩ eMv32 q1426 dX8_reads_114 (fun H locs X => ?_)
          refine lv_aload_n hx hb dX8_reads_117 rfl (lv_at hl 1 rfl) ?_
          obtain ⟨x33, ex33, h1⟩ := ob_out h1
          obtain ⟨Mv34, eMv34, h1⟩ := lt_out h1
          have kx33 := m_X8_next l D ca am n Mv32 xs x33 ex33 H.size
          rw [← eMv34] at kx33
          refine w_callV0 K X wM_fstx kx33 hl.1 0 q1525 q1527 q25 q97 q1528 hv_X8_next ⟨⟨Nat.le_of_ble_eq_true rfl, Nat.le_of_ble_eq_true rfl⟩, rfl, rfl⟩ pl_modo rfl rfl rfl rfl (Nat.le_of_ble_eq_true rfl) dX8_reads_118 ⟨Nat.le_of_ble_eq_true rfl, Nat.le_of_ble_eq_true rfl⟩ rfl (fun H locs X => ?_)
          refine lv_goto (tgt := 20) hx hb dX8_reads_121 (by decide) ?_
          exact ih1 y81_s0 Mv34 H locs X ls (lv_sub hl [1, 0] rfl) (wl_l h1 hx1)
        · have h1 := if_t c26 h1
          refine lv_goto (tgt := 20) hx hb dX8_reads_86 (by decide) ?_
          exact ih1 y81_s0 M_81 H locs X ls (lv_sub hl [1, 0] rfl) (wl_l h1 hx1)
      have J71 : ∀ (y71_s0 : Int32) (M_71 : RowS) (H : Heap) (locs : List Loc) (X : RW D (wM am ca M_71 ++ xs) s.heap H locs) (ls : Array Slot) (hl : lv_has ls 3 [(0, .ref (am 0))]) (h1 : b_X8_reads_71 n y71_s0 M_71 = some x_1), W p l e rm_X8_reads s m args below meth c H locs 0 0 Q (F0 m 71 ls [.int y71_s0]) := by
        intro y71_s0 M_71 H locs X ls hl h1
        unfold b_X8_reads_71 at h1
        refine lv_istore_n (lv' := [(2, .int y71_s0), (0, .ref (am 0))]) hx hb dX8_reads_71 rfl hl (by decide) rfl (fun ls hl => ?_)
        refine lv_iload_n hx hb dX8_reads_72 rfl (lv_at hl 0 rfl) ?_
        refine lv_if_eq (tgt := 80) hx hb dX8_reads_73 (by decide) (fun c25 => ?_) (fun c25 => ?_)
        · have h1 := if_t c25 h1
          refine lv_iconst (v := 0) hx hb dX8_reads_80 (by decide) ?_
          exact J81 y71_s0 0 M_71 H locs X ls (lv_sub hl [1, 0] rfl) h1
        · have h1 := if_f c25 h1
          refine lv_iconst (v := 1) hx hb dX8_reads_76 (by decide) ?_
          refine lv_goto (tgt := 81) hx hb dX8_reads_77 (by decide) ?_
          exact J81 y71_s0 1 M_71 H locs X ls (lv_sub hl [1, 0] rfl) h1
      refine lv_iload_n hx hb dX8_reads_20 rfl (lv_at hl 1 rfl) ?_
      refine lv_if_eq (tgt := 124) hx hb dX8_reads_21 (by decide) (fun c5 => ?_) (fun c5 => ?_)
      · have h1 := if_t c5 h1
        have q1 := wl_r h1 hx1
        exact J124 Mz_20 H locs X ls (lv_sub hl [0] rfl) (by rw [q1] at h0; exact h0)
      · have h1 := if_f c5 h1
        refine lv_aload_n hx hb dX8_reads_24 rfl (lv_at hl 0 rfl) ?_
        obtain ⟨x15, ex15, h1⟩ := ob_out h1
        obtain ⟨Mv16, eMv16, h1⟩ := lt_out h1
        have kx15 := m_X8_comparisonRead l D ca am n Mz_20 xs x15 ex15 H.size
        rw [← eMv16] at kx15
        refine w_callV0 K X wM_fstx kx15 hl.1 0 q1937 q1939 q76 q97 q1940 hv_X8_comparisonRead ⟨⟨Nat.le_of_ble_eq_true rfl, Nat.le_of_ble_eq_true rfl⟩, rfl, rfl⟩ pl_modo rfl rfl rfl rfl (Nat.le_of_ble_eq_true rfl) dX8_reads_25 ⟨Nat.le_of_ble_eq_true rfl, Nat.le_of_ble_eq_true rfl⟩ rfl (fun H locs X => ?_)
        refine lv_aload_n hx hb dX8_reads_28 rfl (lv_at hl 0 rfl) ?_
        obtain ⟨x17, ex17, h1⟩ := lt_out h1
        have kx17 := m_X8_isGood l D ca am Mv16 xs x17 ex17.symm H.size
        refine w_callV0 K X wM_fstx kx17 hl.1 0 q1563 q1565 q32 q97 q1566 hv_X8_isGood ⟨⟨Nat.le_of_ble_eq_true rfl, Nat.le_of_ble_eq_true rfl⟩, rfl, rfl⟩ pl_modo rfl rfl rfl rfl (Nat.le_of_ble_eq_true rfl) dX8_reads_29 ⟨Nat.le_of_ble_eq_true rfl, Nat.le_of_ble_eq_true rfl⟩ rfl (fun H locs X => ?_)
        refine w_zne (tgt := 36) K dX8_reads_32 (by decide) (fun c18 => ?_) (fun c18 => ?_)
        · have h1 := if_t c18 h1
          refine lv_aload_n hx hb dX8_reads_36 rfl (lv_at hl 0 rfl) ?_
          obtain ⟨x19, ex19, h1⟩ := ob_out h1
          obtain ⟨Mv20, eMv20, h1⟩ := lt_out h1
          have kx19 := m_X8_closes l D ca am n Mv16 xs x19 ex19 H.size
          rw [← eMv20] at kx19
          refine w_callV0 K X wM_fstx kx19 hl.1 0 q1965 q1967 q81 q97 q1968 hv_X8_closes ⟨⟨Nat.le_of_ble_eq_true rfl, Nat.le_of_ble_eq_true rfl⟩, rfl, rfl⟩ pl_modo rfl rfl rfl rfl (Nat.le_of_ble_eq_true rfl) dX8_reads_37 ⟨Nat.le_of_ble_eq_true rfl, Nat.le_of_ble_eq_true rfl⟩ rfl (fun H locs X => ?_)
          refine lv_aload_n hx hb dX8_reads_40 rfl (lv_at hl 0 rfl) ?_
          refine lv_ldc2 hx hb K.2.2.2.1 (K.2.2.2.2.1 _ q1980) dX8_reads_41 ?_
          obtain ⟨x21, ex21, h1⟩ := lt_out h1
          have kx21 := m_X8_isWord l D ca am Mv20 xs 1111 x21 ex21.symm H.size
          refine w_callV0 K X wM_fstx kx21 hl.1 1 q1559 q1561 q31 q97 q1562 hv_X8_isWord ⟨⟨Nat.le_of_ble_eq_true rfl, Nat.le_of_ble_eq_true rfl⟩, rfl, rfl⟩ pl_modo rfl rfl rfl rfl (Nat.le_of_ble_eq_true rfl) dX8_reads_44 ⟨Nat.le_of_ble_eq_true rfl, Nat.le_of_ble_eq_true rfl⟩ rfl (fun H locs X => ?_)
          refine w_zeq (tgt := 55) K dX8_reads_47 (by decide) (fun c22 => ?_) (fun c22 => ?_)
          · have h1 := if_f c22 h1
            refine lv_aload_n hx hb dX8_reads_55 rfl (lv_at hl 0 rfl) ?_
            refine lv_ldc2 hx hb K.2.2.2.1 (K.2.2.2.2.1 _ q1981) dX8_reads_56 ?_
            obtain ⟨x23, ex23, h1⟩ := lt_out h1
            have kx23 := m_X8_isWord l D ca am Mv20 xs 423 x23 ex23.symm H.size
            refine w_callV0 K X wM_fstx kx23 hl.1 1 q1559 q1561 q31 q97 q1562 hv_X8_isWord ⟨⟨Nat.le_of_ble_eq_true rfl, Nat.le_of_ble_eq_true rfl⟩, rfl, rfl⟩ pl_modo rfl rfl rfl rfl (Nat.le_of_ble_eq_true rfl) dX8_reads_59 ⟨Nat.le_of_ble_eq_true rfl, Nat.le_of_ble_eq_true rfl⟩ rfl (fun H locs X => ?_)
            refine w_zeq (tgt := 70) K dX8_reads_62 (by decide) (fun c24 => ?_) (fun c24 => ?_)
            · have h1 := if_f c24 h1
              refine lv_iconst (v := 0) hx hb dX8_reads_70 (by decide) ?_
              exact J71 0 Mv20 H locs X ls (lv_sub hl [0] rfl) h1
            · have h1 := if_t c24 h1
              refine lv_bipush (v := 25) hx hb dX8_reads_65 (by decide) ?_
              refine lv_goto (tgt := 71) hx hb dX8_reads_67 (by decide) ?_
              exact J71 25 Mv20 H locs X ls (lv_sub hl [0] rfl) h1
          · have h1 := if_t c22 h1
            refine lv_bipush (v := 24) hx hb dX8_reads_50 (by decide) ?_
            refine lv_goto (tgt := 71) hx hb dX8_reads_52 (by decide) ?_
            exact J71 24 Mv20 H locs X ls (lv_sub hl [0] rfl) h1
        · have h1 := if_f c18 h1
          have q1 := wl_r h1 hx1
          rw [q1] at h0
          have h0 : some Mv16 = some M' := h0
          have h0 := Option.some.inj h0
          subst h0
          subst hQ
          exact w_vret K hr0 X wM_fstx hsz dX8_reads_35
  exact K20 n (b2i x4) Mv3 H locs X ls (lv_sub hl [1, 0] rfl) he1
-- X8_propertyOf
def f_X8_propertyOf (n : Nat) (M : RowS) (a1 : Int32) (a2 : Int32) : Option Int32 :=
  if a1 = 0 then
    some a2
  else if a1 = 1 then
    ob (f_X8_of M a2 0) fun x3 =>
    some x3
  else if a1 = 2 then
    ob (f_X8_of M a2 1) fun x5 =>
    some x5
  else if a1 = 3 then
    ob (f_X8_of M a2 2) fun x7 =>
    some x7
  else if a1 = 4 then
    ob (f_X8_of M a2 3) fun x9 =>
    some x9
  else if a1 = 5 then
    ob (f_X8_of M a2 4) fun x11 =>
    some x11
  else if a1 = 6 then
    ob (f_X8_of M a2 6) fun x13 =>
    some x13
  else if a1 = 7 then
    ob (f_X8_columnOf n M a2) fun x15 =>
    some x15
  else ob (f_X8_of M a2 1) fun x16 =>
  if 0 ≤ (4 + x16).toInt ∧ (4 + x16).toInt < 102 then
    some (M.1 1 (4 + x16).toNatClampNeg)
  else none
abbrev rm_X8_propertyOf : Room := { frames := 8, cells := 0, slots := 0, locals := 190 }
set_option maxRecDepth 100000 in
set_option maxHeartbeats 4000000 in
theorem m_X8_propertyOf (l : Launch) (D : va_G) (ca : Nat → ClassId) (am : Nat → Nat) (n : Nat) (M : RowS) (xs : va_W) (a1 : Int32) (a2 : Int32) (res : Int32) (h0 : f_X8_propertyOf n M a1 a2 = some res) (sz : Nat) : Met l yX8_propertyOf (ws_ yX8_propertyOf cX8_propertyOf 3 (some .int)) rm_X8_propertyOf (PCw D ca (wM am ca M ++ xs) sz [.ref (am 0), .int a1, .int a2]) (QMw D (wM am ca M ++ xs) (wM am ca M ++ xs) sz (some (.int res))) 0 0 (AL (wM am ca M ++ xs) sz) := by
  refine met_of (by decide) (Nat.le_of_ble_eq_true rfl) (fun p e s m args below meth c K hr0 X hsz ls hl => ?_)
  have K : MC D ca p s m args meth c cX8_propertyOf 3 RX8 := K
  have hx := K.1
  have hb := K.2.1
  have hl : lv_has ls 3 [(0, .ref (am 0)), (1, .int a1), (2, .int a2)] := hl
  generalize hQ : MQ below _ args s 0 0 _ = Q
  unfold f_X8_propertyOf at h0
  suffices Z : ∀ (H : Heap) (locs : List Loc) (X : RW D (wM am ca M ++ xs) s.heap H locs), W p l e rm_X8_propertyOf s m args below meth c H locs 0 0 Q (F0 m 0 ls []) from Z _ _ X
  intro H locs X
  refine lv_iload_n hx hb dX8_propertyOf_0 rfl (lv_at hl 1 rfl) ?_
  by_cases c1 : a1 = 0
  · have h0 := if_t c1 h0
    refine lv_tableIn (off := 47) (tgt := 48) hx hb dX8_propertyOf_1 (by rw [c1]; decide) (by rw [c1]; decide) (by rw [c1]; decide) (by decide) ?_
    refine lv_iload_n hx hb dX8_propertyOf_48 rfl (lv_at hl 2 rfl) ?_
    have h0 := Option.some.inj h0
    subst h0
    subst hQ
    exact w_iret K hr0 X wM_fstx hsz dX8_propertyOf_49
  have h0 := if_f c1 h0
  by_cases c2 : a1 = 1
  · have h0 := if_t c2 h0
    refine lv_tableIn (off := 49) (tgt := 50) hx hb dX8_propertyOf_1 (by rw [c2]; decide) (by rw [c2]; decide) (by rw [c2]; decide) (by decide) ?_
    refine lv_aload_n hx hb dX8_propertyOf_50 rfl (lv_at hl 0 rfl) ?_
    refine lv_iload_n hx hb dX8_propertyOf_51 rfl (lv_at hl 2 rfl) ?_
    refine lv_iconst (v := 0) hx hb dX8_propertyOf_52 (by decide) ?_
    obtain ⟨x3, ex3, h0⟩ := ob_out h0
    have kx3 := m_X8_of l D ca am M xs a2 0 x3 ex3 H.size
    refine w_callV0 K X wM_fstx kx3 hl.1 2 q1631 q1633 q47 q97 q1634 hv_X8_of ⟨⟨Nat.le_of_ble_eq_true rfl, Nat.le_of_ble_eq_true rfl⟩, rfl, rfl⟩ pl_modo rfl rfl rfl rfl (Nat.le_of_ble_eq_true rfl) dX8_propertyOf_53 ⟨Nat.le_of_ble_eq_true rfl, Nat.le_of_ble_eq_true rfl⟩ rfl (fun H locs X => ?_)
    have h0 := Option.some.inj h0
    subst h0
    subst hQ
    exact w_iret K hr0 X wM_fstx hsz dX8_propertyOf_56
  have h0 := if_f c2 h0
  by_cases c4 : a1 = 2
  · have h0 := if_t c4 h0
    refine lv_tableIn (off := 56) (tgt := 57) hx hb dX8_propertyOf_1 (by rw [c4]; decide) (by rw [c4]; decide) (by rw [c4]; decide) (by decide) ?_
    refine lv_aload_n hx hb dX8_propertyOf_57 rfl (lv_at hl 0 rfl) ?_
    refine lv_iload_n hx hb dX8_propertyOf_58 rfl (lv_at hl 2 rfl) ?_
    refine lv_iconst (v := 1) hx hb dX8_propertyOf_59 (by decide) ?_
    obtain ⟨x5, ex5, h0⟩ := ob_out h0
    have kx5 := m_X8_of l D ca am M xs a2 1 x5 ex5 H.size
    refine w_callV0 K X wM_fstx kx5 hl.1 2 q1631 q1633 q47 q97 q1634 hv_X8_of ⟨⟨Nat.le_of_ble_eq_true rfl, Nat.le_of_ble_eq_true rfl⟩, rfl, rfl⟩ pl_modo rfl rfl rfl rfl (Nat.le_of_ble_eq_true rfl) dX8_propertyOf_60 ⟨Nat.le_of_ble_eq_true rfl, Nat.le_of_ble_eq_true rfl⟩ rfl (fun H locs X => ?_)
    have h0 := Option.some.inj h0
    subst h0
    subst hQ
    exact w_iret K hr0 X wM_fstx hsz dX8_propertyOf_63
  have h0 := if_f c4 h0
  by_cases c6 : a1 = 3
  · have h0 := if_t c6 h0
    refine lv_tableIn (off := 63) (tgt := 64) hx hb dX8_propertyOf_1 (by rw [c6]; decide) (by rw [c6]; decide) (by rw [c6]; decide) (by decide) ?_
    refine lv_aload_n hx hb dX8_propertyOf_64 rfl (lv_at hl 0 rfl) ?_
    refine lv_iload_n hx hb dX8_propertyOf_65 rfl (lv_at hl 2 rfl) ?_
    refine lv_iconst (v := 2) hx hb dX8_propertyOf_66 (by decide) ?_
    obtain ⟨x7, ex7, h0⟩ := ob_out h0
    have kx7 := m_X8_of l D ca am M xs a2 2 x7 ex7 H.size
    refine w_callV0 K X wM_fstx kx7 hl.1 2 q1631 q1633 q47 q97 q1634 hv_X8_of ⟨⟨Nat.le_of_ble_eq_true rfl, Nat.le_of_ble_eq_true rfl⟩, rfl, rfl⟩ pl_modo rfl rfl rfl rfl (Nat.le_of_ble_eq_true rfl) dX8_propertyOf_67 ⟨Nat.le_of_ble_eq_true rfl, Nat.le_of_ble_eq_true rfl⟩ rfl (fun H locs X => ?_)
    have h0 := Option.some.inj h0
    subst h0
    subst hQ
    exact w_iret K hr0 X wM_fstx hsz dX8_propertyOf_70
  have h0 := if_f c6 h0
  by_cases c8 : a1 = 4
  · have h0 := if_t c8 h0
    refine lv_tableIn (off := 70) (tgt := 71) hx hb dX8_propertyOf_1 (by rw [c8]; decide) (by rw [c8]; decide) (by rw [c8]; decide) (by decide) ?_
    refine lv_aload_n hx hb dX8_propertyOf_71 rfl (lv_at hl 0 rfl) ?_
    refine lv_iload_n hx hb dX8_propertyOf_72 rfl (lv_at hl 2 rfl) ?_
    refine lv_iconst (v := 3) hx hb dX8_propertyOf_73 (by decide) ?_
    obtain ⟨x9, ex9, h0⟩ := ob_out h0
    have kx9 := m_X8_of l D ca am M xs a2 3 x9 ex9 H.size
    refine w_callV0 K X wM_fstx kx9 hl.1 2 q1631 q1633 q47 q97 q1634 hv_X8_of ⟨⟨Nat.le_of_ble_eq_true rfl, Nat.le_of_ble_eq_true rfl⟩, rfl, rfl⟩ pl_modo rfl rfl rfl rfl (Nat.le_of_ble_eq_true rfl) dX8_propertyOf_74 ⟨Nat.le_of_ble_eq_true rfl, Nat.le_of_ble_eq_true rfl⟩ rfl (fun H locs X => ?_)
    have h0 := Option.some.inj h0
    subst h0
    subst hQ
    exact w_iret K hr0 X wM_fstx hsz dX8_propertyOf_77
  have h0 := if_f c8 h0
  by_cases c10 : a1 = 5
  · have h0 := if_t c10 h0
    refine lv_tableIn (off := 77) (tgt := 78) hx hb dX8_propertyOf_1 (by rw [c10]; decide) (by rw [c10]; decide) (by rw [c10]; decide) (by decide) ?_
    refine lv_aload_n hx hb dX8_propertyOf_78 rfl (lv_at hl 0 rfl) ?_
    refine lv_iload_n hx hb dX8_propertyOf_79 rfl (lv_at hl 2 rfl) ?_
    refine lv_iconst (v := 4) hx hb dX8_propertyOf_80 (by decide) ?_
    obtain ⟨x11, ex11, h0⟩ := ob_out h0
    have kx11 := m_X8_of l D ca am M xs a2 4 x11 ex11 H.size
    refine w_callV0 K X wM_fstx kx11 hl.1 2 q1631 q1633 q47 q97 q1634 hv_X8_of ⟨⟨Nat.le_of_ble_eq_true rfl, Nat.le_of_ble_eq_true rfl⟩, rfl, rfl⟩ pl_modo rfl rfl rfl rfl (Nat.le_of_ble_eq_true rfl) dX8_propertyOf_81 ⟨Nat.le_of_ble_eq_true rfl, Nat.le_of_ble_eq_true rfl⟩ rfl (fun H locs X => ?_)
    have h0 := Option.some.inj h0
    subst h0
    subst hQ
    exact w_iret K hr0 X wM_fstx hsz dX8_propertyOf_84
  have h0 := if_f c10 h0
  by_cases c12 : a1 = 6
  · have h0 := if_t c12 h0
    refine lv_tableIn (off := 84) (tgt := 85) hx hb dX8_propertyOf_1 (by rw [c12]; decide) (by rw [c12]; decide) (by rw [c12]; decide) (by decide) ?_
    refine lv_aload_n hx hb dX8_propertyOf_85 rfl (lv_at hl 0 rfl) ?_
    refine lv_iload_n hx hb dX8_propertyOf_86 rfl (lv_at hl 2 rfl) ?_
    refine lv_bipush (v := 6) hx hb dX8_propertyOf_87 (by decide) ?_
    obtain ⟨x13, ex13, h0⟩ := ob_out h0
    have kx13 := m_X8_of l D ca am M xs a2 6 x13 ex13 H.size
    refine w_callV0 K X wM_fstx kx13 hl.1 2 q1631 q1633 q47 q97 q1634 hv_X8_of ⟨⟨Nat.le_of_ble_eq_true rfl, Nat.le_of_ble_eq_true rfl⟩, rfl, rfl⟩ pl_modo rfl rfl rfl rfl (Nat.le_of_ble_eq_true rfl) dX8_propertyOf_89 ⟨Nat.le_of_ble_eq_true rfl, Nat.le_of_ble_eq_true rfl⟩ rfl (fun H locs X => ?_)
    have h0 := Option.some.inj h0
    subst h0
    subst hQ
    exact w_iret K hr0 X wM_fstx hsz dX8_propertyOf_92
  have h0 := if_f c12 h0
  by_cases c14 : a1 = 7
  · have h0 := if_t c14 h0
    refine lv_tableIn (off := 92) (tgt := 93) hx hb dX8_propertyOf_1 (by rw [c14]; decide) (by rw [c14]; decide) (by rw [c14]; decide) (by decide) ?_
    refine lv_aload_n hx hb dX8_propertyOf_93 rfl (lv_at hl 0 rfl) ?_
    refine lv_iload_n hx hb dX8_propertyOf_94 rfl (lv_at hl 2 rfl) ?_
    obtain ⟨x15, ex15, h0⟩ := ob_out h0
    have kx15 := m_X8_columnOf l D ca am n M xs a2 x15 ex15 H.size
    refine w_callV0 K X wM_fstx kx15 hl.1 1 q1719 q1721 q61 q97 q1722 hv_X8_columnOf ⟨⟨Nat.le_of_ble_eq_true rfl, Nat.le_of_ble_eq_true rfl⟩, rfl, rfl⟩ pl_modo rfl rfl rfl rfl (Nat.le_of_ble_eq_true rfl) dX8_propertyOf_95 ⟨Nat.le_of_ble_eq_true rfl, Nat.le_of_ble_eq_true rfl⟩ rfl (fun H locs X => ?_)
    have h0 := Option.some.inj h0
    subst h0
    subst hQ
    exact w_iret K hr0 X wM_fstx hsz dX8_propertyOf_98
  have h0 := if_f c14 h0
  refine lv_tableOut (tgt := 99) hx hb dX8_propertyOf_1 (by have gc1 := lv_neT (a := 0) c1 (by decide); have gc2 := lv_neT (a := 1) c2 (by decide); have gc4 := lv_neT (a := 2) c4 (by decide); have gc6 := lv_neT (a := 3) c6 (by decide); have gc8 := lv_neT (a := 4) c8 (by decide); have gc10 := lv_neT (a := 5) c10 (by decide); have gc12 := lv_neT (a := 6) c12 (by decide); have gc14 := lv_neT (a := 7) c14 (by decide); omega) (by decide) ?_
  refine lv_aload_n hx hb dX8_propertyOf_99 rfl (lv_at hl 0 rfl) ?_
  refine g_modr K X 1 (by decide) (fun _ _ => rfl) q1400 dX8_propertyOf_100 ?_
  refine lv_iconst (v := 4) hx hb dX8_propertyOf_103 (by decide) ?_
  refine lv_aload_n hx hb dX8_propertyOf_104 rfl (lv_at hl 0 rfl) ?_
  refine lv_iload_n hx hb dX8_propertyOf_105 rfl (lv_at hl 2 rfl) ?_
  refine lv_iconst (v := 1) hx hb dX8_propertyOf_106 (by decide) ?_
  obtain ⟨x16, ex16, h0⟩ := ob_out h0
  have kx16 := m_X8_of l D ca am M xs a2 1 x16 ex16 H.size
  refine w_callV0 K X wM_fstx kx16 hl.1 2 q1631 q1633 q47 q97 q1634 hv_X8_of ⟨⟨Nat.le_of_ble_eq_true rfl, Nat.le_of_ble_eq_true rfl⟩, rfl, rfl⟩ pl_modo rfl rfl rfl rfl (Nat.le_of_ble_eq_true rfl) dX8_propertyOf_107 ⟨Nat.le_of_ble_eq_true rfl, Nat.le_of_ble_eq_true rfl⟩ rfl (fun H locs X => ?_)
  refine lv_iadd hx hb dX8_propertyOf_110 ?_
  obtain ⟨c17, h0⟩ := if_o h0
  refine a_modi K X 1 1 102 rfl rfl (inb_vp c17) dX8_propertyOf_111 ?_
  have h0 := Option.some.inj h0
  subst h0
  subst hQ
  exact w_iret K hr0 X wM_fstx hsz dX8_propertyOf_112
-- X8_joined
def f_X8_joined (a1 : Int32) (a2 : Int32) (a3 : Int32) : Bool :=
  if a1 = 20 then
    if a3 ≤ a2 then
      false
    else
      true
  else if a1 = 21 then
    if a2 = a3 then
      true
    else
      false
  else if a1 = 22 then
    if a2 ≤ a3 then
      false
    else
      true
  else if a1 = 23 then
    if (a2 + a3) ≤ 0 then
      false
    else
      true
  else if a1 = 24 then
    if (a2 + a3) = 2 then
      true
    else
      false
  else if (a2 + a3) ≤ 0 then
    false
  else
    true
abbrev rm_X8_joined : Room := { frames := 0, cells := 0, slots := 0, locals := 0 }
set_option maxRecDepth 100000 in
set_option maxHeartbeats 4000000 in
theorem m_X8_joined (l : Launch) (D : va_G) (ca : Nat → ClassId) (ws : va_W) (a1 : Int32) (a2 : Int32) (a3 : Int32) (res : Bool) (h0 : f_X8_joined a1 a2 a3 = res) (sz : Nat) : Met l yX8_joined (ws_ yX8_joined cX8_joined 3 (some .boolean)) rm_X8_joined (PCw D ca (ws) sz [.int a1, .int a2, .int a3]) (QMw D (ws) (ws) sz (some (.int (b2i res)))) 0 0 (AL (ws) sz) := by
  refine met_of (by decide) (Nat.le_of_ble_eq_true rfl) (fun p e s m args below meth c K hr0 X hsz ls hl => ?_)
  have K : MC D ca p s m args meth c cX8_joined 3 RX8 := K
  have hx := K.1
  have hb := K.2.1
  have hl : lv_has ls 3 [(0, .int a1), (1, .int a2), (2, .int a3)] := hl
  generalize hQ : MQ below _ args s 0 0 _ = Q
  unfold f_X8_joined at h0
  suffices Z : ∀ (H : Heap) (locs : List Loc) (X : RW D (ws) s.heap H locs), W p l e rm_X8_joined s m args below meth c H locs 0 0 Q (F0 m 0 ls []) from Z _ _ X
  intro H locs X
  refine lv_iload_n hx hb dX8_joined_0 rfl (lv_at hl 0 rfl) ?_
  by_cases c1 : a1 = 20
  · have h0 := if_t c1 h0
    refine lv_tableIn (off := 35) (tgt := 36) hx hb dX8_joined_1 (by rw [c1]; decide) (by rw [c1]; decide) (by rw [c1]; decide) (by decide) ?_
    refine lv_iload_n hx hb dX8_joined_36 rfl (lv_at hl 1 rfl) ?_
    refine lv_iload_n hx hb dX8_joined_37 rfl (lv_at hl 2 rfl) ?_
    refine lv_icmp_ge (tgt := 45) hx hb dX8_joined_38 (by decide) (fun c2 => ?_) (fun c2 => ?_)
    · have h0 := if_t c2 h0
      refine lv_iconst (v := 0) hx hb dX8_joined_45 (by decide) ?_
      subst h0
      subst hQ
      refine w_int (y := b2i false) (by decide) ?_
      exact w_zret K hr0 X rfl hsz (b2i_nar _) dX8_joined_46
    · have h0 := if_f c2 h0
      refine lv_iconst (v := 1) hx hb dX8_joined_41 (by decide) ?_
      refine lv_goto (tgt := 46) hx hb dX8_joined_42 (by decide) ?_
      subst h0
      subst hQ
      refine w_int (y := b2i true) (by decide) ?_
      exact w_zret K hr0 X rfl hsz (b2i_nar _) dX8_joined_46
  have h0 := if_f c1 h0
  by_cases c3 : a1 = 21
  · have h0 := if_t c3 h0
    refine lv_tableIn (off := 46) (tgt := 47) hx hb dX8_joined_1 (by rw [c3]; decide) (by rw [c3]; decide) (by rw [c3]; decide) (by decide) ?_
    refine lv_iload_n hx hb dX8_joined_47 rfl (lv_at hl 1 rfl) ?_
    refine lv_iload_n hx hb dX8_joined_48 rfl (lv_at hl 2 rfl) ?_
    refine lv_icmp_ne (tgt := 56) hx hb dX8_joined_49 (by decide) (fun c4 => ?_) (fun c4 => ?_)
    · have h0 := if_f c4 h0
      refine lv_iconst (v := 0) hx hb dX8_joined_56 (by decide) ?_
      subst h0
      subst hQ
      refine w_int (y := b2i false) (by decide) ?_
      exact w_zret K hr0 X rfl hsz (b2i_nar _) dX8_joined_57
    · have h0 := if_t c4 h0
      refine lv_iconst (v := 1) hx hb dX8_joined_52 (by decide) ?_
      refine lv_goto (tgt := 57) hx hb dX8_joined_53 (by decide) ?_
      subst h0
      subst hQ
      refine w_int (y := b2i true) (by decide) ?_
      exact w_zret K hr0 X rfl hsz (b2i_nar _) dX8_joined_57
  have h0 := if_f c3 h0
  by_cases c5 : a1 = 22
  · have h0 := if_t c5 h0
    refine lv_tableIn (off := 57) (tgt := 58) hx hb dX8_joined_1 (by rw [c5]; decide) (by rw [c5]; decide) (by rw [c5]; decide) (by decide) ?_
    refine lv_iload_n hx hb dX8_joined_58 rfl (lv_at hl 1 rfl) ?_
    refine lv_iload_n hx hb dX8_joined_59 rfl (lv_at hl 2 rfl) ?_
    refine lv_icmp_le (tgt := 67) hx hb dX8_joined_60 (by decide) (fun c6 => ?_) (fun c6 => ?_)
    · have h0 := if_t c6 h0
      refine lv_iconst (v := 0) hx hb dX8_joined_67 (by decide) ?_
      subst h0
      subst hQ
      refine w_int (y := b2i false) (by decide) ?_
      exact w_zret K hr0 X rfl hsz (b2i_nar _) dX8_joined_68
    · have h0 := if_f c6 h0
      refine lv_iconst (v := 1) hx hb dX8_joined_63 (by decide) ?_
      refine lv_goto (tgt := 68) hx hb dX8_joined_64 (by decide) ?_
      subst h0
      subst hQ
      refine w_int (y := b2i true) (by decide) ?_
      exact w_zret K hr0 X rfl hsz (b2i_nar _) dX8_joined_68
  have h0 := if_f c5 h0
  by_cases c7 : a1 = 23
  · have h0 := if_t c7 h0
    refine lv_tableIn (off := 81) (tgt := 82) hx hb dX8_joined_1 (by rw [c7]; decide) (by rw [c7]; decide) (by rw [c7]; decide) (by decide) ?_
    refine lv_iload_n hx hb dX8_joined_82 rfl (lv_at hl 1 rfl) ?_
    refine lv_iload_n hx hb dX8_joined_83 rfl (lv_at hl 2 rfl) ?_
    refine lv_iadd hx hb dX8_joined_84 ?_
    refine lv_if_le (tgt := 92) hx hb dX8_joined_85 (by decide) (fun c8 => ?_) (fun c8 => ?_)
    · have h0 := if_t c8 h0
      refine lv_iconst (v := 0) hx hb dX8_joined_92 (by decide) ?_
      subst h0
      subst hQ
      refine w_int (y := b2i false) (by decide) ?_
      exact w_zret K hr0 X rfl hsz (b2i_nar _) dX8_joined_93
    · have h0 := if_f c8 h0
      refine lv_iconst (v := 1) hx hb dX8_joined_88 (by decide) ?_
      refine lv_goto (tgt := 93) hx hb dX8_joined_89 (by decide) ?_
      subst h0
      subst hQ
      refine w_int (y := b2i true) (by decide) ?_
      exact w_zret K hr0 X rfl hsz (b2i_nar _) dX8_joined_93
  have h0 := if_f c7 h0
  by_cases c9 : a1 = 24
  · have h0 := if_t c9 h0
    refine lv_tableIn (off := 68) (tgt := 69) hx hb dX8_joined_1 (by rw [c9]; decide) (by rw [c9]; decide) (by rw [c9]; decide) (by decide) ?_
    refine lv_iload_n hx hb dX8_joined_69 rfl (lv_at hl 1 rfl) ?_
    refine lv_iload_n hx hb dX8_joined_70 rfl (lv_at hl 2 rfl) ?_
    refine lv_iadd hx hb dX8_joined_71 ?_
    refine lv_iconst (v := 2) hx hb dX8_joined_72 (by decide) ?_
    refine lv_icmp_ne (tgt := 80) hx hb dX8_joined_73 (by decide) (fun c10 => ?_) (fun c10 => ?_)
    · have h0 := if_f c10 h0
      refine lv_iconst (v := 0) hx hb dX8_joined_80 (by decide) ?_
      subst h0
      subst hQ
      refine w_int (y := b2i false) (by decide) ?_
      exact w_zret K hr0 X rfl hsz (b2i_nar _) dX8_joined_81
    · have h0 := if_t c10 h0
      refine lv_iconst (v := 1) hx hb dX8_joined_76 (by decide) ?_
      refine lv_goto (tgt := 81) hx hb dX8_joined_77 (by decide) ?_
      subst h0
      subst hQ
      refine w_int (y := b2i true) (by decide) ?_
      exact w_zret K hr0 X rfl hsz (b2i_nar _) dX8_joined_81
  have h0 := if_f c9 h0
  refine lv_tableOut (tgt := 82) hx hb dX8_joined_1 (by have gc1 := lv_neT (a := 20) c1 (by decide); have gc3 := lv_neT (a := 21) c3 (by decide); have gc5 := lv_neT (a := 22) c5 (by decide); have gc7 := lv_neT (a := 23) c7 (by decide); have gc9 := lv_neT (a := 24) c9 (by decide); omega) (by decide) ?_
  refine lv_iload_n hx hb dX8_joined_82 rfl (lv_at hl 1 rfl) ?_
  refine lv_iload_n hx hb dX8_joined_83 rfl (lv_at hl 2 rfl) ?_
  refine lv_iadd hx hb dX8_joined_84 ?_
  refine lv_if_le (tgt := 92) hx hb dX8_joined_85 (by decide) (fun c11 => ?_) (fun c11 => ?_)
  · have h0 := if_t c11 h0
    refine lv_iconst (v := 0) hx hb dX8_joined_92 (by decide) ?_
    subst h0
    subst hQ
    refine w_int (y := b2i false) (by decide) ?_
    exact w_zret K hr0 X rfl hsz (b2i_nar _) dX8_joined_93
  · have h0 := if_f c11 h0
    refine lv_iconst (v := 1) hx hb dX8_joined_88 (by decide) ?_
    refine lv_goto (tgt := 93) hx hb dX8_joined_89 (by decide) ?_
    subst h0
    subst hQ
    refine w_int (y := b2i true) (by decide) ?_
    exact w_zret K hr0 X rfl hsz (b2i_nar _) dX8_joined_93
-- X8_holds
def b_X8_holds_141  (M_141 : RowS) : Option (Bool × RowS) :=
  if 0 ≤ (0 : Int32).toInt ∧ (0 : Int32).toInt < 200 then
    if (M_141.1 25 (0 : Int32).toNatClampNeg) = 1 then
      some (true, M_141)
    else
      some (false, M_141)
  else none
def b_X8_holds_135  (y135_l2 : Int32) (y135_l3 : Int32) (M_135 : RowS) : Option ((Int32 × Int32 × RowS) ⊕ RowS) :=
  lt (y135_l3 + 1) fun x14 =>
  some (.inl (y135_l2, x14, M_135))
def b_X8_holds_131  (y131_l2 : Int32) (y131_l3 : Int32) (y131_s1 : Int32) (y131_s2 : Int32) (M_131 : RowS) : Option ((Int32 × Int32 × RowS) ⊕ RowS) :=
  if 0 ≤ y131_s1.toInt ∧ y131_s1.toInt < 200 then
    lt (si M_131 25 y131_s1.toNatClampNeg y131_s2) fun Mv12 =>
    lt (y131_l2 + 1) fun x13 =>
    b_X8_holds_135 x13 y131_l3 Mv12
  else none
def b_X8_holds_100  (y100_l2 : Int32) (y100_l3 : Int32) (y100_s1 : Int32) (y100_s2 : Int32) (M_100 : RowS) : Option ((Int32 × Int32 × RowS) ⊕ RowS) :=
  if 0 ≤ y100_s1.toInt ∧ y100_s1.toInt < 200 then
    lt (si M_100 25 y100_s1.toNatClampNeg y100_s2) fun Mv21 =>
    b_X8_holds_135 y100_l2 y100_l3 Mv21
  else none
def l_X8_holds_4 (n : Nat) (a1 : Int32) (z4_2 : Int32) (z4_3 : Int32) (Mz_4 : RowS) : Option ((Int32 × Int32 × RowS) ⊕ RowS) :=
  if (Mz_4.1 0 26) ≤ z4_3 then
    some (.inr Mz_4)
  else
    if 0 ≤ z4_3.toInt ∧ z4_3.toInt < 200 then
      lt (Mz_4.1 23 z4_3.toNatClampNeg) fun x5 =>
      if x5 = 23 then
        if 0 ≤ (z4_2 - 1).toInt ∧ (z4_2 - 1).toInt < 200 then
          if 0 ≤ (z4_2 - 1).toInt ∧ (z4_2 - 1).toInt < 200 then
            lt (si Mz_4 25 (z4_2 - 1).toNatClampNeg (1 - (Mz_4.1 25 (z4_2 - 1).toNatClampNeg))) fun Mv24 =>
            b_X8_holds_135 z4_2 z4_3 Mv24
          else none
        else none
      else
        lt (f_X8_in x5.toInt64 20 25) fun x7 =>
        if x7 = true then
          lt (z4_2 + (-1)) fun x15 =>
          if 0 ≤ (x15 - 1).toInt ∧ (x15 - 1).toInt < 200 then
            if 0 ≤ x15.toInt ∧ x15.toInt < 200 then
              lt (f_X8_joined x5 (Mz_4.1 25 (x15 - 1).toNatClampNeg) (Mz_4.1 25 x15.toNatClampNeg)) fun x18 =>
              if x18 = true then
                b_X8_holds_100 x15 z4_3 (x15 - 1) 1 Mz_4
              else
                b_X8_holds_100 x15 z4_3 (x15 - 1) 0 Mz_4
            else none
          else none
        else
          if x5 < 100 then
            ob (f_X8_propertyOf n Mz_4 x5 a1) fun x10 =>
            b_X8_holds_131 z4_2 z4_3 z4_2 x10 Mz_4
          else
            b_X8_holds_131 z4_2 z4_3 z4_2 (x5 - 100) Mz_4
    else none
def f_X8_holds (n : Nat) (M : RowS) (a1 : Int32) : Option (Bool × RowS) :=
  ob (wloop (fun t => l_X8_holds_4 n a1 t.1 t.2.1 t.2.2) n (0, 0, M)) (fun t => b_X8_holds_141 t)
abbrev rm_X8_holds : Room := { frames := 9, cells := 0, slots := 0, locals := 212 }
set_option maxRecDepth 100000 in
set_option maxHeartbeats 4000000 in
theorem m_X8_holds (l : Launch) (D : va_G) (ca : Nat → ClassId) (am : Nat → Nat) (n : Nat) (M : RowS) (xs : va_W) (a1 : Int32) (res : Bool) (M' : RowS) (h0 : f_X8_holds n M a1 = some (res, M')) (sz : Nat) : Met l yX8_holds (ws_ yX8_holds cX8_holds 5 (some .boolean)) rm_X8_holds (PCw D ca (wM am ca M ++ xs) sz [.ref (am 0), .int a1]) (QMw D (wM am ca M ++ xs) (wM am ca (M') ++ xs) sz (some (.int (b2i res)))) 0 0 (AL (wM am ca M ++ xs) sz) := by
  refine met_of (by decide) (Nat.le_of_ble_eq_true rfl) (fun p e s m args below meth c K hr0 X hsz ls hl => ?_)
  have K : MC D ca p s m args meth c cX8_holds 5 RX8 := K
  have hx := K.1
  have hb := K.2.1
  have hl : lv_has ls 5 [(0, .ref (am 0)), (1, .int a1)] := hl
  generalize hQ : MQ below _ args s 0 0 _ = Q
  unfold f_X8_holds at h0
  suffices Z : ∀ (H : Heap) (locs : List Loc) (X : RW D (wM am ca M ++ xs) s.heap H locs), W p l e rm_X8_holds s m args below meth c H locs 0 0 Q (F0 m 0 ls []) from Z _ _ X
  intro H locs X
  have J141 : ∀ (M_141 : RowS) (H : Heap) (locs : List Loc) (X : RW D (wM am ca M_141 ++ xs) s.heap H locs) (ls : Array Slot) (hl : lv_has ls 5 [(0, .ref (am 0))]) (h0 : b_X8_holds_141 M_141 = some (res, M')), W p l e rm_X8_holds s m args below meth c H locs 0 0 Q (F0 m 141 ls []) := by
    intro M_141 H locs X ls hl h0
    unfold b_X8_holds_141 at h0
    refine lv_aload_n hx hb dX8_holds_141 rfl (lv_at hl 0 rfl) ?_
    refine g_modr K X 25 (by decide) (fun _ _ => rfl) q1424 dX8_holds_142 ?_
    refine lv_iconst (v := 0) hx hb dX8_holds_145 (by decide) ?_
    obtain ⟨c2, h0⟩ := if_o h0
    refine a_modi K X 25 13 200 rfl rfl (inb_vp c2) dX8_holds_146 ?_
    refine lv_iconst (v := 1) hx hb dX8_holds_147 (by decide) ?_
    refine lv_icmp_ne (tgt := 155) hx hb dX8_holds_148 (by decide) (fun c3 => ?_) (fun c3 => ?_)
    · have h0 := if_f c3 h0
      refine lv_iconst (v := 0) hx hb dX8_holds_155 (by decide) ?_
      have h0 := Option.some.inj h0
      obtain ⟨q_0, q_1⟩ := Prod.mk.inj h0
      subst q_0
      subst q_1
      subst hQ
      refine w_int (y := b2i false) (by decide) ?_
      exact w_zret K hr0 X wM_fstx hsz (b2i_nar _) dX8_holds_156
    · have h0 := if_t c3 h0
      refine lv_iconst (v := 1) hx hb dX8_holds_151 (by decide) ?_
      refine lv_goto (tgt := 156) hx hb dX8_holds_152 (by decide) ?_
      have h0 := Option.some.inj h0
      obtain ⟨q_0, q_1⟩ := Prod.mk.inj h0
      subst q_0
      subst q_1
      subst hQ
      refine w_int (y := b2i true) (by decide) ?_
      exact w_zret K hr0 X wM_fstx hsz (b2i_nar _) dX8_holds_156
  refine lv_iconst (v := 0) hx hb dX8_holds_0 (by decide) ?_
  refine lv_istore_n (lv' := [(2, .int 0), (0, .ref (am 0)), (1, .int a1)]) hx hb dX8_holds_1 rfl hl (by decide) rfl (fun ls hl => ?_)
  refine lv_iconst (v := 0) hx hb dX8_holds_2 (by decide) ?_
  refine lv_istore_n (lv' := [(3, .int 0), (2, .int 0), (0, .ref (am 0)), (1, .int a1)]) hx hb dX8_holds_3 rfl hl (by decide) rfl (fun ls hl => ?_)
  obtain ⟨e_1, he1, h0⟩ := ob_out h0
  have K4 : ∀ (k : Nat) (z4_2 : Int32) (z4_3 : Int32) (Mz_4 : RowS) (H : Heap) (locs : List Loc) (X : RW D (wM am ca Mz_4 ++ xs) s.heap H locs) (ls : Array Slot) (hl : lv_has ls 5 [(0, .ref (am 0)), (1, .int a1), (2, .int z4_2), (3, .int z4_3)]) (hw : wloop (fun t => l_X8_holds_4 n a1 t.1 t.2.1 t.2.2) k (z4_2, z4_3, Mz_4) = some e_1), W p l e rm_X8_holds s m args below meth c H locs 0 0 Q (F0 m 4 ls []) := by
    intro k
    induction k with
    | zero => intro z4_2 z4_3 Mz_4 H locs X ls hl hw; exact (wloop_0 hw).elim
    | succ k ih1 =>
      intro z4_2 z4_3 Mz_4 H locs X ls hl hw
      obtain ⟨x_1, h1, hx1⟩ := wloop_out hw
      have h1 : l_X8_holds_4 n a1 z4_2 z4_3 Mz_4 = some x_1 := h1
      unfold l_X8_holds_4 at h1
      have J135 : ∀ (y135_l2 : Int32) (y135_l3 : Int32) (M_135 : RowS) (H : Heap) (locs : List Loc) (X : RW D (wM am ca M_135 ++ xs) s.heap H locs) (ls : Array Slot) (hl : lv_has ls 5 [(0, .ref (am 0)), (1, .int a1), (2, .int y135_l2), (3, .int y135_l3)]) (h1 : b_X8_holds_135 y135_l2 y135_l3 M_135 = some x_1), W p l e rm_X8_holds s m args below meth c H locs 0 0 Q (F0 m 135 ls []) := by
        intro y135_l2 y135_l3 M_135 H locs X ls hl h1
        unfold b_X8_holds_135 at h1
        obtain ⟨x14, ex14, h1⟩ := lt_out h1
        refine lv_iinc (v := x14) (lv' := [(3, .int x14), (0, .ref (am 0)), (1, .int a1), (2, .int y135_l2)]) hx hb dX8_holds_135 hl (k := 3) rfl (by rw [ex14]; rfl) (by decide) rfl (fun ls hl => ?_)
        refine lv_goto (tgt := 4) hx hb dX8_holds_138 (by decide) ?_
        exact ih1 y135_l2 x14 M_135 H locs X ls (lv_sub hl [1, 2, 3, 0] rfl) (wl_l h1 hx1)
      have J131 : ∀ (y131_l2 : Int32) (y131_l3 : Int32) (y131_s1 : Int32) (y131_s2 : Int32) (M_131 : RowS) (H : Heap) (locs : List Loc) (X : RW D (wM am ca M_131 ++ xs) s.heap H locs) (ls : Array Slot) (hl : lv_has ls 5 [(0, .ref (am 0)), (1, .int a1), (2, .int y131_l2), (3, .int y131_l3)]) (h1 : b_X8_holds_131 y131_l2 y131_l3 y131_s1 y131_s2 M_131 = some x_1), W p l e rm_X8_holds s m args below meth c H locs 0 0 Q (F0 m 131 ls [.int y131_s2, .int y131_s1, .ref (am 25)]) := by
        intro y131_l2 y131_l3 y131_s1 y131_s2 M_131 H locs X ls hl h1
        unfold b_X8_holds_131 at h1
        obtain ⟨c11, h1⟩ := if_o h1
        obtain ⟨Mv12, eMv12, h1⟩ := lt_out h1
        refine s_modi K X 25 13 200 rfl (fun _ => rfl) (inb_vp c11) eMv12 dX8_holds_131 (fun H locs X => ?_)
        obtain ⟨x13, ex13, h1⟩ := lt_out h1
        refine lv_iinc (v := x13) (lv' := [(2, .int x13), (0, .ref (am 0)), (1, .int a1), (3, .int y131_l3)]) hx hb dX8_holds_132 hl (k := 2) rfl (by rw [ex13]; rfl) (by decide) rfl (fun ls hl => ?_)
        exact J135 x13 y131_l3 Mv12 H locs X ls (lv_sub hl [1, 2, 0, 3] rfl) h1
      have J100 : ∀ (y100_l2 : Int32) (y100_l3 : Int32) (y100_s1 : Int32) (y100_s2 : Int32) (M_100 : RowS) (H : Heap) (locs : List Loc) (X : RW D (wM am ca M_100 ++ xs) s.heap H locs) (ls : Array Slot) (hl : lv_has ls 5 [(0, .ref (am 0)), (1, .int a1), (2, .int y100_l2), (3, .int y100_l3)]) (h1 : b_X8_holds_100 y100_l2 y100_l3 y100_s1 y100_s2 M_100 = some x_1), W p l e rm_X8_holds s m args below meth c H locs 0 0 Q (F0 m 100 ls [.int y100_s2, .int y100_s1, .ref (am 25)]) := by
        intro y100_l2 y100_l3 y100_s1 y100_s2 M_100 H locs X ls hl h1
        unfold b_X8_holds_100 at h1
        obtain ⟨c20, h1⟩ := if_o h1
        obtain ⟨Mv21, eMv21, h1⟩ := lt_out h1
        refine s_modi K X 25 13 200 rfl (fun _ => rfl) (inb_vp c20) eMv21 dX8_holds_100 (fun H locs X => ?_)
        refine lv_goto (tgt := 135) hx hb dX8_holds_101 (by decide) ?_
        exact J135 y100_l2 y100_l3 Mv21 H locs X ls (lv_sub hl [0, 1, 2, 3] rfl) h1
      refine lv_iload_n hx hb dX8_holds_4 rfl (lv_at hl 3 rfl) ?_
      refine lv_aload_n hx hb dX8_holds_5 rfl (lv_at hl 0 rfl) ?_
      refine g_modi K X 26 (by decide) (fun _ _ => rfl) q1425 dX8_holds_6 ?_
      refine lv_icmp_ge (tgt := 141) hx hb dX8_holds_9 (by decide) (fun c1 => ?_) (fun c1 => ?_)
      · have h1 := if_t c1 h1
        have q1 := wl_r h1 hx1
        exact J141 Mz_4 H locs X ls (lv_sub hl [0] rfl) (by rw [q1] at h0; exact h0)
      · have h1 := if_f c1 h1
        refine lv_aload_n hx hb dX8_holds_12 rfl (lv_at hl 0 rfl) ?_
        refine g_modr K X 23 (by decide) (fun _ _ => rfl) q1422 dX8_holds_13 ?_
        refine lv_iload_n hx hb dX8_holds_16 rfl (lv_at hl 3 rfl) ?_
        obtain ⟨c4, h1⟩ := if_o h1
        refine a_modi K X 23 11 200 rfl rfl (inb_vp c4) dX8_holds_17 ?_
        obtain ⟨x5, ex5, h1⟩ := lt_out h1
        refine w_int ex5 ?_
        refine lv_istore (lv' := [(4, .int x5), (0, .ref (am 0)), (1, .int a1), (2, .int z4_2), (3, .int z4_3)]) hx hb dX8_holds_18 hl (by decide) rfl (fun ls hl => ?_)
        refine lv_iload hx hb dX8_holds_20 (lv_at hl 0 rfl) ?_
        refine lv_bipush (v := 23) hx hb dX8_holds_22 (by decide) ?_
        refine lv_icmp_ne (tgt := 48) hx hb dX8_holds_24 (by decide) (fun c6 => ?_) (fun c6 => ?_)
        · have h1 := if_f c6 h1
          refine lv_iload hx hb dX8_holds_48 (lv_at hl 0 rfl) ?_
          refine lv_i2l hx hb dX8_holds_50 rfl ?_
          refine lv_ldc2 hx hb K.2.2.2.1 (K.2.2.2.2.1 _ q1875) dX8_holds_51 ?_
          refine lv_ldc2 hx hb K.2.2.2.1 (K.2.2.2.2.1 _ q1986) dX8_holds_54 ?_
          obtain ⟨x7, ex7, h1⟩ := lt_out h1
          have kx7 := m_X8_in l D ca (wM am ca Mz_4 ++ xs) x5.toInt64 20 25 x7 ex7.symm H.size
          refine w_callS0 K X wM_fstx kx7 hl.1 3 q1504 q1505 q97 q1506 hs_X8_in ⟨⟨Nat.le_of_ble_eq_true rfl, Nat.le_of_ble_eq_true rfl⟩, rfl, rfl⟩ rfl rfl (Nat.le_of_ble_eq_true rfl) dX8_holds_57 ⟨Nat.le_of_ble_eq_true rfl, Nat.le_of_ble_eq_true rfl⟩ rfl (fun H locs X => ?_)
          refine w_zeq (tgt := 104) K dX8_holds_60 (by decide) (fun c8 => ?_) (fun c8 => ?_)
          · have h1 := if_f c8 h1
            refine lv_aload_n hx hb dX8_holds_104 rfl (lv_at hl 1 rfl) ?_
            refine g_modr K X 25 (by decide) (fun _ _ => rfl) q1424 dX8_holds_105 ?_
            refine lv_iload_n hx hb dX8_holds_108 rfl (lv_at hl 3 rfl) ?_
            refine lv_iload hx hb dX8_holds_109 (lv_at hl 0 rfl) ?_
            refine lv_bipush (v := 100) hx hb dX8_holds_111 (by decide) ?_
            refine lv_icmp_lt (tgt := 124) hx hb dX8_holds_113 (by decide) (fun c9 => ?_) (fun c9 => ?_)
            · have h1 := if_t c9 h1
              refine lv_aload_n hx hb dX8_holds_124 rfl (lv_at hl 1 rfl) ?_
              refine lv_iload hx hb dX8_holds_125 (lv_at hl 0 rfl) ?_
              refine lv_iload_n hx hb dX8_holds_127 rfl (lv_at hl 2 rfl) ?_
              obtain ⟨x10, ex10, h1⟩ := ob_out h1
              have kx10 := m_X8_propertyOf l D ca am n Mz_4 xs x5 a1 x10 ex10 H.size
              refine w_callV0 K X wM_fstx kx10 hl.1 2 q1990 q1992 q85 q97 q1993 hv_X8_propertyOf ⟨⟨Nat.le_of_ble_eq_true rfl, Nat.le_of_ble_eq_true rfl⟩, rfl, rfl⟩ pl_modo rfl rfl rfl rfl (Nat.le_of_ble_eq_true rfl) dX8_holds_128 ⟨Nat.le_of_ble_eq_true rfl, Nat.le_of_ble_eq_true rfl⟩ rfl (fun H locs X => ?_)
              exact J131 z4_2 z4_3 z4_2 x10 Mz_4 H locs X ls (lv_sub hl [1, 2, 3, 4] rfl) h1
            · have h1 := if_f c9 h1
              refine lv_iload hx hb dX8_holds_116 (lv_at hl 0 rfl) ?_
              refine lv_bipush (v := 100) hx hb dX8_holds_118 (by decide) ?_
              refine lv_isub hx hb dX8_holds_120 ?_
              refine lv_goto (tgt := 131) hx hb dX8_holds_121 (by decide) ?_
              exact J131 z4_2 z4_3 z4_2 (x5 - 100) Mz_4 H locs X ls (lv_sub hl [1, 2, 3, 4] rfl) h1
          · have h1 := if_t c8 h1
            obtain ⟨x15, ex15, h1⟩ := lt_out h1
            refine lv_iinc (v := x15) (lv' := [(2, .int x15), (4, .int x5), (0, .ref (am 0)), (1, .int a1), (3, .int z4_3)]) hx hb dX8_holds_63 hl (k := 3) rfl (by rw [ex15]; rfl) (by decide) rfl (fun ls hl => ?_)
            refine lv_aload_n hx hb dX8_holds_66 rfl (lv_at hl 2 rfl) ?_
            refine g_modr K X 25 (by decide) (fun _ _ => rfl) q1424 dX8_holds_67 ?_
            refine lv_iload_n hx hb dX8_holds_70 rfl (lv_at hl 0 rfl) ?_
            refine lv_iconst (v := 1) hx hb dX8_holds_71 (by decide) ?_
            refine lv_isub hx hb dX8_holds_72 ?_
            refine lv_iload hx hb dX8_holds_73 (lv_at hl 1 rfl) ?_
            refine lv_aload_n hx hb dX8_holds_75 rfl (lv_at hl 2 rfl) ?_
            refine g_modr K X 25 (by decide) (fun _ _ => rfl) q1424 dX8_holds_76 ?_
            refine lv_iload_n hx hb dX8_holds_79 rfl (lv_at hl 0 rfl) ?_
            refine lv_iconst (v := 1) hx hb dX8_holds_80 (by decide) ?_
            refine lv_isub hx hb dX8_holds_81 ?_
            obtain ⟨c16, h1⟩ := if_o h1
            refine a_modi K X 25 13 200 rfl rfl (inb_vp c16) dX8_holds_82 ?_
            refine lv_aload_n hx hb dX8_holds_83 rfl (lv_at hl 2 rfl) ?_
            refine g_modr K X 25 (by decide) (fun _ _ => rfl) q1424 dX8_holds_84 ?_
            refine lv_iload_n hx hb dX8_holds_87 rfl (lv_at hl 0 rfl) ?_
            obtain ⟨c17, h1⟩ := if_o h1
            refine a_modi K X 25 13 200 rfl rfl (inb_vp c17) dX8_holds_88 ?_
            obtain ⟨x18, ex18, h1⟩ := lt_out h1
            have kx18 := m_X8_joined l D ca (wM am ca Mz_4 ++ xs) x5 (Mz_4.1 25 (x15 - 1).toNatClampNeg) (Mz_4.1 25 x15.toNatClampNeg) x18 ex18.symm H.size
            refine w_callS0 K X wM_fstx kx18 hl.1 3 q1987 q1988 q97 q1989 hs_X8_joined ⟨⟨Nat.le_of_ble_eq_true rfl, Nat.le_of_ble_eq_true rfl⟩, rfl, rfl⟩ rfl rfl (Nat.le_of_ble_eq_true rfl) dX8_holds_89 ⟨Nat.le_of_ble_eq_true rfl, Nat.le_of_ble_eq_true rfl⟩ rfl (fun H locs X => ?_)
            refine w_zeq (tgt := 99) K dX8_holds_92 (by decide) (fun c19 => ?_) (fun c19 => ?_)
            · have h1 := if_f c19 h1
              refine lv_iconst (v := 0) hx hb dX8_holds_99 (by decide) ?_
              exact J100 x15 z4_3 (x15 - 1) 0 Mz_4 H locs X ls (lv_sub hl [2, 3, 0, 4] rfl) h1
            · have h1 := if_t c19 h1
              refine lv_iconst (v := 1) hx hb dX8_holds_95 (by decide) ?_
              refine lv_goto (tgt := 100) hx hb dX8_holds_96 (by decide) ?_
              exact J100 x15 z4_3 (x15 - 1) 1 Mz_4 H locs X ls (lv_sub hl [2, 3, 0, 4] rfl) h1
        · have h1 := if_t c6 h1
          refine lv_aload_n hx hb dX8_holds_27 rfl (lv_at hl 1 rfl) ?_
          refine g_modr K X 25 (by decide) (fun _ _ => rfl) q1424 dX8_holds_28 ?_
          refine lv_iload_n hx hb dX8_holds_31 rfl (lv_at hl 3 rfl) ?_
          refine lv_iconst (v := 1) hx hb dX8_holds_32 (by decide) ?_
          refine lv_isub hx hb dX8_holds_33 ?_
          refine lv_iconst (v := 1) hx hb dX8_holds_34 (by decide) ?_
          refine lv_aload_n hx hb dX8_holds_35 rfl (lv_at hl 1 rfl) ?_
          refine g_modr K X 25 (by decide) (fun _ _ => rfl) q1424 dX8_holds_36 ?_
          refine lv_iload_n hx hb dX8_holds_39 rfl (lv_at hl 3 rfl) ?_
          refine lv_iconst (v := 1) hx hb dX8_holds_40 (by decide) ?_
          refine lv_isub hx hb dX8_holds_41 ?_
          obtain ⟨c22, h1⟩ := if_o h1
          refine a_modi K X 25 13 200 rfl rfl (inb_vp c22) dX8_holds_42 ?_
          refine lv_isub hx hb dX8_holds_43 ?_
          obtain ⟨c23, h1⟩ := if_o h1
          obtain ⟨Mv24, eMv24, h1⟩ := lt_out h1
          refine s_modi K X 25 13 200 rfl (fun _ => rfl) (inb_vp c23) eMv24 dX8_holds_44 (fun H locs X => ?_)
          refine lv_goto (tgt := 135) hx hb dX8_holds_45 (by decide) ?_
          exact J135 z4_2 z4_3 Mv24 H locs X ls (lv_sub hl [1, 2, 3, 4] rfl) h1
  exact K4 n 0 0 M H locs X ls (lv_sub hl [2, 3, 1, 0] rfl) he1
-- X8_query
def b_X8_query_129  (y129_l2 : Bool) (y129_l3 : Int32) (M_129 : RowS) : Option (Int32 × RowS) :=
  if y129_l2 = true then
    some ((-1), M_129)
  else
    some (y129_l3, M_129)
def b_X8_query_123  (y123_l3 : Int32) (y123_l4 : Int32) (M_123 : RowS) : Option ((Int32 × Int32 × RowS) ⊕ ((Int32 × RowS) ⊕ (Int32 × RowS))) :=
  lt (y123_l4 + 1) fun x25 =>
  some (.inl (y123_l3, x25, M_123))
def l_X8_query_90 (n : Nat) (y65_l2 : Bool) (z90_3 : Int32) (z90_4 : Int32) (Mz_90 : RowS) : Option ((Int32 × Int32 × RowS) ⊕ ((Int32 × RowS) ⊕ (Int32 × RowS))) :=
  if 0 ≤ (2 : Int32).toInt ∧ (2 : Int32).toInt < 102 then
    if (Mz_90.1 1 (2 : Int32).toNatClampNeg) ≤ z90_4 then
      some (.inr (.inl (z90_3, Mz_90)))
    else
      ob (f_X8_holds n Mz_90 z90_4) fun x20 =>
      lt (x20.2) fun Mv21 =>
      if x20.1 = true then
        if y65_l2 = true then
          some (.inr (.inr (z90_4, Mv21)))
        else
          lt (z90_3 + 1) fun x24 =>
          b_X8_query_123 x24 z90_4 Mv21
      else
        b_X8_query_123 z90_3 z90_4 Mv21
  else none
def b_X8_query_65 (n : Nat) (y65_l2 : Bool) (M_65 : RowS) : Option (Int32 × RowS) :=
  ob (f_X8_reads n M_65) fun x13 =>
  lt (x13) fun Mv14 =>
  lt (f_X8_isGood Mv14) fun x15 =>
  if x15 = true then
    ob (wloop (fun t => l_X8_query_90 n y65_l2 t.1 t.2.1 t.2.2) n (0, 0, Mv14)) (fun t => match t with | .inl t => b_X8_query_129 y65_l2 t.1 t.2 | .inr r => some r)
  else
    some (((-1000000000) - (Mv14.1 0 19)), Mv14)
def f_X8_query (n : Nat) (M : RowS) (a1 : Int32) : Option (Int32 × RowS) :=
  lt (si M 0 0 0) fun Mv1 =>
  lt (f_X8_lesser (Mv1.1 0 12) 200) fun x2 =>
  lt (f_X8_in a1.toInt64 0 x2.toInt64) fun x3 =>
  lt (f_X8_fails Mv1 (b2i x3) 1) fun x4 =>
  lt (x4.2) fun Mv5 =>
  if x4.1 = true then
    some (0, Mv5)
  else
    ob (f_X8_starts n Mv5 a1) fun x7 =>
    lt (x7) fun Mv8 =>
    ob (f_X8_passes n Mv8 3379448) fun x9 =>
    lt (x9.2) fun Mv10 =>
    lt (x9.1) fun x11 =>
    if x11 = true then
      b_X8_query_65 n x11 Mv10
    else
      ob (f_X8_passes n Mv10 257011) fun x26 =>
      lt (x26.2) fun Mv27 =>
      if x26.1 = true then
        b_X8_query_65 n x11 Mv27
      else
        lt (f_X8_wrongs Mv27 1) fun x29 =>
        lt (x29.2) fun Mv30 =>
        b_X8_query_65 n x11 Mv30
abbrev rm_X8_query : Room := { frames := 10, cells := 0, slots := 0, locals := 236 }
set_option maxRecDepth 100000 in
set_option maxHeartbeats 4000000 in
theorem m_X8_query (l : Launch) (D : va_G) (ca : Nat → ClassId) (am : Nat → Nat) (n : Nat) (M : RowS) (xs : va_W) (a1 : Int32) (res : Int32) (M' : RowS) (h0 : f_X8_query n M a1 = some (res, M')) (sz : Nat) : Met l yX8_query (ws_ yX8_query cX8_query 5 (some .int)) rm_X8_query (PCw D ca (wM am ca M ++ xs) sz [.ref (am 0), .int a1]) (QMw D (wM am ca M ++ xs) (wM am ca (M') ++ xs) sz (some (.int res))) 0 0 (AL (wM am ca M ++ xs) sz) := by
  refine met_of (by decide) (Nat.le_of_ble_eq_true rfl) (fun p e s m args below meth c K hr0 X hsz ls hl => ?_)
  have K : MC D ca p s m args meth c cX8_query 5 RX8 := K
  have hx := K.1
  have hb := K.2.1
  have hl : lv_has ls 5 [(0, .ref (am 0)), (1, .int a1)] := hl
  generalize hQ : MQ below _ args s 0 0 _ = Q
  unfold f_X8_query at h0
  suffices Z : ∀ (H : Heap) (locs : List Loc) (X : RW D (wM am ca M ++ xs) s.heap H locs), W p l e rm_X8_query s m args below meth c H locs 0 0 Q (F0 m 0 ls []) from Z _ _ X
  intro H locs X
  have J129 : ∀ (y129_l2 : Bool) (y129_l3 : Int32) (M_129 : RowS) (H : Heap) (locs : List Loc) (X : RW D (wM am ca M_129 ++ xs) s.heap H locs) (ls : Array Slot) (hl : lv_has ls 5 [(2, .int (b2i y129_l2)), (3, .int y129_l3)]) (h0 : b_X8_query_129 y129_l2 y129_l3 M_129 = some (res, M')), W p l e rm_X8_query s m args below meth c H locs 0 0 Q (F0 m 129 ls []) := by
    intro y129_l2 y129_l3 M_129 H locs X ls hl h0
    unfold b_X8_query_129 at h0
    refine lv_iload_n hx hb dX8_query_129 rfl (lv_at hl 0 rfl) ?_
    refine w_zeq (tgt := 137) K dX8_query_130 (by decide) (fun c19 => ?_) (fun c19 => ?_)
    · have h0 := if_f c19 h0
      refine lv_iload_n hx hb dX8_query_137 rfl (lv_at hl 1 rfl) ?_
      have h0 := Option.some.inj h0
      obtain ⟨q_0, q_1⟩ := Prod.mk.inj h0
      subst q_0
      subst q_1
      subst hQ
      exact w_iret K hr0 X wM_fstx hsz dX8_query_138
    · have h0 := if_t c19 h0
      refine lv_iconst (v := (-1)) hx hb dX8_query_133 (by decide) ?_
      refine lv_goto (tgt := 138) hx hb dX8_query_134 (by decide) ?_
      have h0 := Option.some.inj h0
      obtain ⟨q_0, q_1⟩ := Prod.mk.inj h0
      subst q_0
      subst q_1
      subst hQ
      exact w_iret K hr0 X wM_fstx hsz dX8_query_138
  have J65 : ∀ (y65_l2 : Bool) (M_65 : RowS) (H : Heap) (locs : List Loc) (X : RW D (wM am ca M_65 ++ xs) s.heap H locs) (ls : Array Slot) (hl : lv_has ls 5 [(0, .ref (am 0)), (2, .int (b2i y65_l2))]) (h0 : b_X8_query_65 n y65_l2 M_65 = some (res, M')), W p l e rm_X8_query s m args below meth c H locs 0 0 Q (F0 m 65 ls []) := by
    intro y65_l2 M_65 H locs X ls hl h0
    unfold b_X8_query_65 at h0
    refine lv_aload_n hx hb dX8_query_65 rfl (lv_at hl 0 rfl) ?_
    obtain ⟨x13, ex13, h0⟩ := ob_out h0
    obtain ⟨Mv14, eMv14, h0⟩ := lt_out h0
    have kx13 := m_X8_reads l D ca am n M_65 xs x13 ex13 H.size
    rw [← eMv14] at kx13
    refine w_callV0 K X wM_fstx kx13 hl.1 0 q1933 q1935 q75 q97 q1936 hv_X8_reads ⟨⟨Nat.le_of_ble_eq_true rfl, Nat.le_of_ble_eq_true rfl⟩, rfl, rfl⟩ pl_modo rfl rfl rfl rfl (Nat.le_of_ble_eq_true rfl) dX8_query_66 ⟨Nat.le_of_ble_eq_true rfl, Nat.le_of_ble_eq_true rfl⟩ rfl (fun H locs X => ?_)
    refine lv_aload_n hx hb dX8_query_69 rfl (lv_at hl 0 rfl) ?_
    obtain ⟨x15, ex15, h0⟩ := lt_out h0
    have kx15 := m_X8_isGood l D ca am Mv14 xs x15 ex15.symm H.size
    refine w_callV0 K X wM_fstx kx15 hl.1 0 q1563 q1565 q32 q97 q1566 hv_X8_isGood ⟨⟨Nat.le_of_ble_eq_true rfl, Nat.le_of_ble_eq_true rfl⟩, rfl, rfl⟩ pl_modo rfl rfl rfl rfl (Nat.le_of_ble_eq_true rfl) dX8_query_70 ⟨Nat.le_of_ble_eq_true rfl, Nat.le_of_ble_eq_true rfl⟩ rfl (fun H locs X => ?_)
    refine w_zne (tgt := 85) K dX8_query_73 (by decide) (fun c16 => ?_) (fun c16 => ?_)
    · have h0 := if_t c16 h0
      refine lv_iconst (v := 0) hx hb dX8_query_85 (by decide) ?_
      refine lv_istore_n (lv' := [(3, .int 0), (0, .ref (am 0)), (2, .int (b2i y65_l2))]) hx hb dX8_query_86 rfl hl (by decide) rfl (fun ls hl => ?_)
      refine lv_iconst (v := 0) hx hb dX8_query_87 (by decide) ?_
      refine lv_istore (lv' := [(4, .int 0), (3, .int 0), (0, .ref (am 0)), (2, .int (b2i y65_l2))]) hx hb dX8_query_88 hl (by decide) rfl (fun ls hl => ?_)
      obtain ⟨e_1, he1, h0⟩ := ob_out h0
      have K90 : ∀ (k : Nat) (z90_3 : Int32) (z90_4 : Int32) (Mz_90 : RowS) (H : Heap) (locs : List Loc) (X : RW D (wM am ca Mz_90 ++ xs) s.heap H locs) (ls : Array Slot) (hl : lv_has ls 5 [(0, .ref (am 0)), (2, .int (b2i y65_l2)), (3, .int z90_3), (4, .int z90_4)]) (hw : wloop (fun t => l_X8_query_90 n y65_l2 t.1 t.2.1 t.2.2) k (z90_3, z90_4, Mz_90) = some e_1), W p l e rm_X8_query s m args below meth c H locs 0 0 Q (F0 m 90 ls []) := by
        intro k
        induction k with
        | zero => intro z90_3 z90_4 Mz_90 H locs X ls hl hw; exact (wloop_0 hw).elim
        | succ k ih1 =>
          intro z90_3 z90_4 Mz_90 H locs X ls hl hw
          obtain ⟨x_1, h1, hx1⟩ := wloop_out hw
          have h1 : l_X8_query_90 n y65_l2 z90_3 z90_4 Mz_90 = some x_1 := h1
          unfold l_X8_query_90 at h1
          have J123 : ∀ (y123_l3 : Int32) (y123_l4 : Int32) (M_123 : RowS) (H : Heap) (locs : List Loc) (X : RW D (wM am ca M_123 ++ xs) s.heap H locs) (ls : Array Slot) (hl : lv_has ls 5 [(0, .ref (am 0)), (2, .int (b2i y65_l2)), (3, .int y123_l3), (4, .int y123_l4)]) (h1 : b_X8_query_123 y123_l3 y123_l4 M_123 = some x_1), W p l e rm_X8_query s m args below meth c H locs 0 0 Q (F0 m 123 ls []) := by
            intro y123_l3 y123_l4 M_123 H locs X ls hl h1
            unfold b_X8_query_123 at h1
            obtain ⟨x25, ex25, h1⟩ := lt_out h1
            refine lv_iinc (v := x25) (lv' := [(4, .int x25), (0, .ref (am 0)), (2, .int (b2i y65_l2)), (3, .int y123_l3)]) hx hb dX8_query_123 hl (k := 3) rfl (by rw [ex25]; rfl) (by decide) rfl (fun ls hl => ?_)
            refine lv_goto (tgt := 90) hx hb dX8_query_126 (by decide) ?_
            exact ih1 y123_l3 x25 M_123 H locs X ls (lv_sub hl [1, 2, 3, 0] rfl) (wl_l h1 hx1)
          refine lv_iload hx hb dX8_query_90 (lv_at hl 3 rfl) ?_
          refine lv_aload_n hx hb dX8_query_92 rfl (lv_at hl 0 rfl) ?_
          refine g_modr K X 1 (by decide) (fun _ _ => rfl) q1400 dX8_query_93 ?_
          refine lv_iconst (v := 2) hx hb dX8_query_96 (by decide) ?_
          obtain ⟨c17, h1⟩ := if_o h1
          refine a_modi K X 1 1 102 rfl rfl (inb_vp c17) dX8_query_97 ?_
          refine lv_icmp_ge (tgt := 129) hx hb dX8_query_98 (by decide) (fun c18 => ?_) (fun c18 => ?_)
          · have h1 := if_t c18 h1
            have q1 := wl_r h1 hx1
            exact J129 y65_l2 z90_3 Mz_90 H locs X ls (lv_sub hl [1, 2] rfl) (by rw [q1] at h0; exact h0)
          · have h1 := if_f c18 h1
            refine lv_aload_n hx hb dX8_query_101 rfl (lv_at hl 0 rfl) ?_
            refine lv_iload hx hb dX8_query_102 (lv_at hl 3 rfl) ?_
            obtain ⟨x20, ex20, h1⟩ := ob_out h1
            obtain ⟨Mv21, eMv21, h1⟩ := lt_out h1
            have kx20 := m_X8_holds l D ca am n Mz_90 xs z90_4 x20.1 x20.2 ex20 H.size
            rw [← eMv21] at kx20
            refine w_callV0 K X wM_fstx kx20 hl.1 1 q1982 q1984 q84 q97 q1985 hv_X8_holds ⟨⟨Nat.le_of_ble_eq_true rfl, Nat.le_of_ble_eq_true rfl⟩, rfl, rfl⟩ pl_modo rfl rfl rfl rfl (Nat.le_of_ble_eq_true rfl) dX8_query_104 ⟨Nat.le_of_ble_eq_true rfl, Nat.le_of_ble_eq_true rfl⟩ rfl (fun H locs X => ?_)
            refine w_zne (tgt := 113) K dX8_query_107 (by decide) (fun c22 => ?_) (fun c22 => ?_)
            · have h1 := if_t c22 h1
              refine lv_iload_n hx hb dX8_query_113 rfl (lv_at hl 1 rfl) ?_
              refine w_zeq (tgt := 120) K dX8_query_114 (by decide) (fun c23 => ?_) (fun c23 => ?_)
              · have h1 := if_f c23 h1
                obtain ⟨x24, ex24, h1⟩ := lt_out h1
                refine lv_iinc (v := x24) (lv' := [(3, .int x24), (0, .ref (am 0)), (2, .int (b2i y65_l2)), (4, .int z90_4)]) hx hb dX8_query_120 hl (k := 2) rfl (by rw [ex24]; rfl) (by decide) rfl (fun ls hl => ?_)
                exact J123 x24 z90_4 Mv21 H locs X ls (lv_sub hl [1, 2, 0, 3] rfl) h1
              · have h1 := if_t c23 h1
                refine lv_iload hx hb dX8_query_117 (lv_at hl 3 rfl) ?_
                have q1 := wl_r h1 hx1
                rw [q1] at h0
                have h0 : some (z90_4, Mv21) = some (res, M') := h0
                have h0 := Option.some.inj h0
                obtain ⟨q_0, q_1⟩ := Prod.mk.inj h0
                subst q_0
                subst q_1
                subst hQ
                exact w_iret K hr0 X wM_fstx hsz dX8_query_119
            · have h1 := if_f c22 h1
              refine lv_goto (tgt := 123) hx hb dX8_query_110 (by decide) ?_
              exact J123 z90_3 z90_4 Mv21 H locs X ls (lv_sub hl [0, 1, 2, 3] rfl) h1
      exact K90 n 0 0 Mv14 H locs X ls (lv_sub hl [2, 3, 1, 0] rfl) he1
    · have h0 := if_f c16 h0
      refine lv_ldcw hx hb K.2.2.2.1 (K.2.2.2.2.1 _ q1739) dX8_query_76 ?_
      refine lv_aload_n hx hb dX8_query_79 rfl (lv_at hl 0 rfl) ?_
      refine g_modi K X 19 (by decide) (fun _ _ => rfl) q1418 dX8_query_80 ?_
      refine lv_isub hx hb dX8_query_83 ?_
      have h0 := Option.some.inj h0
      obtain ⟨q_0, q_1⟩ := Prod.mk.inj h0
      subst q_0
      subst q_1
      subst hQ
      exact w_iret K hr0 X wM_fstx hsz dX8_query_84
  refine lv_aload_n hx hb dX8_query_0 rfl (lv_at hl 0 rfl) ?_
  refine lv_iconst (v := 0) hx hb dX8_query_1 (by decide) ?_
  obtain ⟨Mv1, eMv1, h0⟩ := lt_out h0
  refine p_modi (ty := .int) K X 0 (by decide) (fun _ _ => rfl) (by decide +kernel) ⟨rfl, rfl⟩ eMv1 q1399 dX8_query_2 (fun H locs X => ?_)
  refine lv_aload_n hx hb dX8_query_5 rfl (lv_at hl 0 rfl) ?_
  refine lv_iload_n hx hb dX8_query_6 rfl (lv_at hl 1 rfl) ?_
  refine lv_i2l hx hb dX8_query_7 rfl ?_
  refine lv_lconst (v := 0) hx hb dX8_query_8 (by decide) ?_
  refine lv_aload_n hx hb dX8_query_9 rfl (lv_at hl 0 rfl) ?_
  refine g_modi K X 12 (by decide) (fun _ _ => rfl) q1411 dX8_query_10 ?_
  refine lv_sipush (v := 200) hx hb dX8_query_13 (by decide) ?_
  obtain ⟨x2, ex2, h0⟩ := lt_out h0
  have kx2 := m_X8_lesser l D ca (wM am ca Mv1 ++ xs) (Mv1.1 0 12) 200 x2 ex2.symm H.size
  refine w_callS0 K X wM_fstx kx2 hl.1 2 q1928 q1929 q97 q1930 hs_X8_lesser ⟨⟨Nat.le_of_ble_eq_true rfl, Nat.le_of_ble_eq_true rfl⟩, rfl, rfl⟩ rfl rfl (Nat.le_of_ble_eq_true rfl) dX8_query_16 ⟨Nat.le_of_ble_eq_true rfl, Nat.le_of_ble_eq_true rfl⟩ rfl (fun H locs X => ?_)
  refine lv_i2l hx hb dX8_query_19 rfl ?_
  obtain ⟨x3, ex3, h0⟩ := lt_out h0
  have kx3 := m_X8_in l D ca (wM am ca Mv1 ++ xs) a1.toInt64 0 x2.toInt64 x3 ex3.symm H.size
  refine w_callS0 K X wM_fstx kx3 hl.1 3 q1504 q1505 q97 q1506 hs_X8_in ⟨⟨Nat.le_of_ble_eq_true rfl, Nat.le_of_ble_eq_true rfl⟩, rfl, rfl⟩ rfl rfl (Nat.le_of_ble_eq_true rfl) dX8_query_20 ⟨Nat.le_of_ble_eq_true rfl, Nat.le_of_ble_eq_true rfl⟩ rfl (fun H locs X => ?_)
  refine lv_iconst (v := 1) hx hb dX8_query_23 (by decide) ?_
  obtain ⟨x4, ex4, h0⟩ := lt_out h0
  obtain ⟨Mv5, eMv5, h0⟩ := lt_out h0
  have kx4 := m_X8_fails l D ca am Mv1 xs (b2i x3) 1 x4.1 x4.2 ex4.symm H.size
  rw [← eMv5] at kx4
  refine w_callV0 K X wM_fstx kx4 hl.1 2 q1507 q1509 q22 q97 q1510 hv_X8_fails ⟨⟨Nat.le_of_ble_eq_true rfl, Nat.le_of_ble_eq_true rfl⟩, rfl, rfl⟩ pl_modo rfl rfl rfl rfl (Nat.le_of_ble_eq_true rfl) dX8_query_24 ⟨Nat.le_of_ble_eq_true rfl, Nat.le_of_ble_eq_true rfl⟩ rfl (fun H locs X => ?_)
  refine w_zeq (tgt := 32) K dX8_query_27 (by decide) (fun c6 => ?_) (fun c6 => ?_)
  · have h0 := if_f c6 h0
    refine lv_aload_n hx hb dX8_query_32 rfl (lv_at hl 0 rfl) ?_
    refine lv_iload_n hx hb dX8_query_33 rfl (lv_at hl 1 rfl) ?_
    obtain ⟨x7, ex7, h0⟩ := ob_out h0
    obtain ⟨Mv8, eMv8, h0⟩ := lt_out h0
    have kx7 := m_X8_starts l D ca am n Mv5 xs a1 x7 ex7 H.size
    rw [← eMv8] at kx7
    refine w_callV0 K X wM_fstx kx7 hl.1 1 q1521 q1523 q24 q97 q1524 hv_X8_starts ⟨⟨Nat.le_of_ble_eq_true rfl, Nat.le_of_ble_eq_true rfl⟩, rfl, rfl⟩ pl_modo rfl rfl rfl rfl (Nat.le_of_ble_eq_true rfl) dX8_query_34 ⟨Nat.le_of_ble_eq_true rfl, Nat.le_of_ble_eq_true rfl⟩ rfl (fun H locs X => ?_)
    refine lv_aload_n hx hb dX8_query_37 rfl (lv_at hl 0 rfl) ?_
    refine lv_ldc2 hx hb K.2.2.2.1 (K.2.2.2.2.1 _ q1931) dX8_query_38 ?_
    obtain ⟨x9, ex9, h0⟩ := ob_out h0
    obtain ⟨Mv10, eMv10, h0⟩ := lt_out h0
    have kx9 := m_X8_passes l D ca am n Mv8 xs 3379448 x9.1 x9.2 ex9 H.size
    rw [← eMv10] at kx9
    refine w_callV0 K X wM_fstx kx9 hl.1 1 q1555 q1557 q30 q97 q1558 hv_X8_passes ⟨⟨Nat.le_of_ble_eq_true rfl, Nat.le_of_ble_eq_true rfl⟩, rfl, rfl⟩ pl_modo rfl rfl rfl rfl (Nat.le_of_ble_eq_true rfl) dX8_query_41 ⟨Nat.le_of_ble_eq_true rfl, Nat.le_of_ble_eq_true rfl⟩ rfl (fun H locs X => ?_)
    obtain ⟨x11, ex11, h0⟩ := lt_out h0
    refine w_int (congrArg b2i ex11) ?_
    refine lv_istore_n (lv' := [(2, .int (b2i x11)), (0, .ref (am 0)), (1, .int a1)]) hx hb dX8_query_44 rfl hl (by decide) rfl (fun ls hl => ?_)
    refine lv_iload_n hx hb dX8_query_45 rfl (lv_at hl 0 rfl) ?_
    refine w_zne (tgt := 65) K dX8_query_46 (by decide) (fun c12 => ?_) (fun c12 => ?_)
    · have h0 := if_t c12 h0
      exact J65 x11 Mv10 H locs X ls (lv_sub hl [1, 0] rfl) h0
    · have h0 := if_f c12 h0
      refine lv_aload_n hx hb dX8_query_49 rfl (lv_at hl 1 rfl) ?_
      refine lv_ldc2 hx hb K.2.2.2.1 (K.2.2.2.2.1 _ q1932) dX8_query_50 ?_
      obtain ⟨x26, ex26, h0⟩ := ob_out h0
      obtain ⟨Mv27, eMv27, h0⟩ := lt_out h0
      have kx26 := m_X8_passes l D ca am n Mv10 xs 257011 x26.1 x26.2 ex26 H.size
      rw [← eMv27] at kx26
      refine w_callV0 K X wM_fstx kx26 hl.1 1 q1555 q1557 q30 q97 q1558 hv_X8_passes ⟨⟨Nat.le_of_ble_eq_true rfl, Nat.le_of_ble_eq_true rfl⟩, rfl, rfl⟩ pl_modo rfl rfl rfl rfl (Nat.le_of_ble_eq_true rfl) dX8_query_53 ⟨Nat.le_of_ble_eq_true rfl, Nat.le_of_ble_eq_true rfl⟩ rfl (fun H locs X => ?_)
      refine w_zne (tgt := 65) K dX8_query_56 (by decide) (fun c28 => ?_) (fun c28 => ?_)
      · have h0 := if_t c28 h0
        exact J65 x11 Mv27 H locs X ls (lv_sub hl [1, 0] rfl) h0
      · have h0 := if_f c28 h0
        refine lv_aload_n hx hb dX8_query_59 rfl (lv_at hl 1 rfl) ?_
        refine lv_iconst (v := 1) hx hb dX8_query_60 (by decide) ?_
        obtain ⟨x29, ex29, h0⟩ := lt_out h0
        obtain ⟨Mv30, eMv30, h0⟩ := lt_out h0
        have kx29 := m_X8_wrongs l D ca am Mv27 xs 1 x29.1 x29.2 ex29.symm H.size
        rw [← eMv30] at kx29
        refine w_callV0 K X wM_fstx kx29 hl.1 1 q1567 q1569 q33 q97 q1570 hv_X8_wrongs ⟨⟨Nat.le_of_ble_eq_true rfl, Nat.le_of_ble_eq_true rfl⟩, rfl, rfl⟩ pl_modo rfl rfl rfl rfl (Nat.le_of_ble_eq_true rfl) dX8_query_61 ⟨Nat.le_of_ble_eq_true rfl, Nat.le_of_ble_eq_true rfl⟩ rfl (fun H locs X => ?_)
        refine lv_pop hx hb dX8_query_64 rfl ?_
        exact J65 x11 Mv30 H locs X ls (lv_sub hl [1, 0] rfl) h0
  · have h0 := if_t c6 h0
    refine lv_iconst (v := 0) hx hb dX8_query_30 (by decide) ?_
    have h0 := Option.some.inj h0
    obtain ⟨q_0, q_1⟩ := Prod.mk.inj h0
    subst q_0
    subst q_1
    subst hQ
    exact w_iret K hr0 X wM_fstx hsz dX8_query_31
