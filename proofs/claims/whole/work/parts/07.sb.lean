-- J0_coder_7d493
def f_J0_coder_7d493 (a0 : Nat) : Int32 :=
  0
abbrev rm_J0_coder_7d493 : Room := { frames := 0, cells := 0, slots := 0, locals := 0 }
set_option maxRecDepth 100000 in
set_option maxHeartbeats 4000000 in
theorem m_J0_coder_7d493 (l : Launch) (D : va_G) (ca : Nat → ClassId) (z : ZG) (ws : va_W) (a0 : Nat) (ha0 : a0 < 33) (res : Int32) (h0 : f_J0_coder_7d493 a0 = res) (sz : Nat) : Met l yJ0_coder_7d493 (ws_ yJ0_coder_7d493 cJ0_coder_7d493 1 (some .byte)) rm_J0_coder_7d493 (PCz z D ca (ws) sz [.ref (z.1 a0)]) (QMw D (ws) (ws) sz (some (.int res))) 0 0 (AL (ws) sz) := by
  refine met_z (by decide +kernel) (Nat.le_of_ble_eq_true rfl) (fun p e s m args below meth c K hr0 hZ X hsz ls hl => ?_)
  have K : MC D ca p s m args meth c cJ0_coder_7d493 1 RJ0 := K
  have hx := K.1
  have hb := K.2.1
  have hl : lv_has ls 1 [(0, .ref (z.1 a0))] := hl
  generalize hQ : MQ below _ args s 0 0 _ = Q
  unfold f_J0_coder_7d493 at h0
  suffices Z : ∀ (H : Heap) (locs : List Loc) (X : RW D (ws) s.heap H locs), W p l e rm_J0_coder_7d493 s m args below meth c H locs 0 0 Q (F0 m 0 ls []) from Z _ _ X
  intro H locs X
  refine z_compact K hZ X rfl q680 dJ0_coder_7d493_0 ?_
  refine lv_if_eq (tgt := 13) hx hb dJ0_coder_7d493_3 (by decide) (fun c1 => False.elim (by revert c1; decide)) (fun c1 => ?_)
  refine lv_aload_n hx hb dJ0_coder_7d493_6 rfl (lv_at hl 0 rfl) ?_
  refine z_cod K hZ X rfl ha0 q1257 dJ0_coder_7d493_7 ?_
  refine lv_goto (tgt := 14) hx hb dJ0_coder_7d493_10 (by decide) ?_
  subst h0
  subst hQ
  exact w_nret K hr0 X rfl hsz rfl dJ0_coder_7d493_14
-- J0_length_8abf5
def f_J0_length_8abf5 (a0 : Nat) : Int32 :=
  ((nI (zlen a0)) >>> ((0 : Int32) &&& 31))
abbrev rm_J0_length_8abf5 : Room := { frames := 1, cells := 0, slots := 0, locals := 20 }
set_option maxRecDepth 100000 in
set_option maxHeartbeats 4000000 in
theorem m_J0_length_8abf5 (l : Launch) (D : va_G) (ca : Nat → ClassId) (z : ZG) (ws : va_W) (a0 : Nat) (ha0 : a0 < 33) (res : Int32) (h0 : f_J0_length_8abf5 a0 = res) (sz : Nat) : Met l yJ0_length_8abf5 (ws_ yJ0_length_8abf5 cJ0_length_8abf5 1 (some .int)) rm_J0_length_8abf5 (PCz z D ca (ws) sz [.ref (z.1 a0)]) (QMw D (ws) (ws) sz (some (.int res))) 0 0 (AL (ws) sz) := by
  refine met_z (by decide +kernel) (Nat.le_of_ble_eq_true rfl) (fun p e s m args below meth c K hr0 hZ X hsz ls hl => ?_)
  have K : MC D ca p s m args meth c cJ0_length_8abf5 1 RJ0 := K
  have hx := K.1
  have hb := K.2.1
  have hl : lv_has ls 1 [(0, .ref (z.1 a0))] := hl
  generalize hQ : MQ below _ args s 0 0 _ = Q
  unfold f_J0_length_8abf5 at h0
  suffices Z : ∀ (H : Heap) (locs : List Loc) (X : RW D (ws) s.heap H locs), W p l e rm_J0_length_8abf5 s m args below meth c H locs 0 0 Q (F0 m 0 ls []) from Z _ _ X
  intro H locs X
  refine lv_aload_n hx hb dJ0_length_8abf5_0 rfl (lv_at hl 0 rfl) ?_
  refine z_val K hZ X rfl ha0 q1256 dJ0_length_8abf5_1 ?_
  refine z_len K hZ X rfl ha0 dJ0_length_8abf5_4 ?_
  refine lv_aload_n hx hb dJ0_length_8abf5_5 rfl (lv_at hl 0 rfl) ?_
  have kx1 := m_J0_coder_7d493 l D ca z (ws) a0 ha0 0 rfl H.size
  refine z_callV K hZ X rfl rfl kx1 hl.1 0 q676 q677 q678 q95 q679 hv_J0_coder_7d493 ⟨⟨Nat.le_of_ble_eq_true rfl, Nat.le_of_ble_eq_true rfl⟩, rfl, rfl⟩ (z_recv hZ X rfl ha0) rfl rfl (Nat.le_of_ble_eq_true rfl) dJ0_length_8abf5_6 ⟨Nat.le_of_ble_eq_true rfl, Nat.le_of_ble_eq_true rfl⟩ rfl (fun H locs X => ?_)
  refine lv_ishr hx hb dJ0_length_8abf5_9 ?_
  subst h0
  subst hQ
  exact w_iret K hr0 X rfl hsz dJ0_length_8abf5_10
-- J0_isLatin1_aae02
def f_J0_isLatin1_aae02 (a0 : Nat) : Bool :=
  true
abbrev rm_J0_isLatin1_aae02 : Room := { frames := 0, cells := 0, slots := 0, locals := 0 }
set_option maxRecDepth 100000 in
set_option maxHeartbeats 4000000 in
theorem m_J0_isLatin1_aae02 (l : Launch) (D : va_G) (ca : Nat → ClassId) (z : ZG) (ws : va_W) (a0 : Nat) (ha0 : a0 < 33) (res : Bool) (h0 : f_J0_isLatin1_aae02 a0 = res) (sz : Nat) : Met l yJ0_isLatin1_aae02 (ws_ yJ0_isLatin1_aae02 cJ0_isLatin1_aae02 1 (some .boolean)) rm_J0_isLatin1_aae02 (PCz z D ca (ws) sz [.ref (z.1 a0)]) (QMw D (ws) (ws) sz (some (.int (b2i res)))) 0 0 (AL (ws) sz) := by
  refine met_z (by decide +kernel) (Nat.le_of_ble_eq_true rfl) (fun p e s m args below meth c K hr0 hZ X hsz ls hl => ?_)
  have K : MC D ca p s m args meth c cJ0_isLatin1_aae02 1 RJ0 := K
  have hx := K.1
  have hb := K.2.1
  have hl : lv_has ls 1 [(0, .ref (z.1 a0))] := hl
  generalize hQ : MQ below _ args s 0 0 _ = Q
  unfold f_J0_isLatin1_aae02 at h0
  suffices Z : ∀ (H : Heap) (locs : List Loc) (X : RW D (ws) s.heap H locs), W p l e rm_J0_isLatin1_aae02 s m args below meth c H locs 0 0 Q (F0 m 0 ls []) from Z _ _ X
  intro H locs X
  refine z_compact K hZ X rfl q680 dJ0_isLatin1_aae02_0 ?_
  refine lv_if_eq (tgt := 17) hx hb dJ0_isLatin1_aae02_3 (by decide) (fun c1 => False.elim (by revert c1; decide)) (fun c1 => ?_)
  refine lv_aload_n hx hb dJ0_isLatin1_aae02_6 rfl (lv_at hl 0 rfl) ?_
  refine z_cod K hZ X rfl ha0 q1257 dJ0_isLatin1_aae02_7 ?_
  refine lv_if_ne (tgt := 17) hx hb dJ0_isLatin1_aae02_10 (by decide) (fun c2 => False.elim (by revert c2; decide)) (fun c2 => ?_)
  refine lv_iconst (v := 1) hx hb dJ0_isLatin1_aae02_13 (by decide) ?_
  refine lv_goto (tgt := 18) hx hb dJ0_isLatin1_aae02_14 (by decide) ?_
  subst h0
  subst hQ
  refine w_int (y := b2i true) (by decide) ?_
  exact w_zret K hr0 X rfl hsz (b2i_nar _) dJ0_isLatin1_aae02_18
-- J3_checkIndex_8e157
def b_J3_checkIndex_8e157_9   : Option Int32 :=
  none
def f_J3_checkIndex_8e157 (a1 : Int32) (a2 : Int32) : Option Int32 :=
  if a1 < 0 then
    b_J3_checkIndex_8e157_9
  else
    if a1 < a2 then
      some a1
    else
      b_J3_checkIndex_8e157_9
abbrev rm_J3_checkIndex_8e157 : Room := { frames := 0, cells := 0, slots := 0, locals := 0 }
set_option maxRecDepth 100000 in
set_option maxHeartbeats 4000000 in
theorem m_J3_checkIndex_8e157 (l : Launch) (D : va_G) (ca : Nat → ClassId) (ws : va_W) (a1 : Int32) (a2 : Int32) (a3 : Option Nat) (res : Int32) (h0 : f_J3_checkIndex_8e157 a1 a2 = some res) (sz : Nat) : Met l yJ3_checkIndex_8e157 (ws_ yJ3_checkIndex_8e157 cJ3_checkIndex_8e157 3 (some .int)) rm_J3_checkIndex_8e157 (PCw D ca (ws) sz [.int a1, .int a2, va_rf a3]) (QMw D (ws) (ws) sz (some (.int res))) 0 0 (AL (ws) sz) := by
  refine met_ofF (by decide +kernel) (by cases a3 <;> exact Nat.le_of_ble_eq_true rfl) (fun p e s m args below meth c K hr0 X hsz ls hl => ?_)
  have K : MC D ca p s m args meth c cJ3_checkIndex_8e157 3 RJ3 := K
  have hx := K.1
  have hb := K.2.1
  have hl : lv_has ls 3 [(0, .int a1), (1, .int a2), (2, va_rf a3)] := by cases a3 <;> exact hl
  generalize hQ : MQ below _ args s 0 0 _ = Q
  unfold f_J3_checkIndex_8e157 at h0
  suffices Z : ∀ (H : Heap) (locs : List Loc) (X : RW D (ws) s.heap H locs), W p l e rm_J3_checkIndex_8e157 s m args below meth c H locs 0 0 Q (F0 m 0 ls []) from Z _ _ X
  intro H locs X
  have J9 : ∀  (H : Heap) (locs : List Loc) (X : RW D (ws) s.heap H locs) (ls : Array Slot) (hl : lv_has ls 3 [(0, .int a1), (1, .int a2), (2, va_rf a3)]) (h0 : b_J3_checkIndex_8e157_9 = some res), W p l e rm_J3_checkIndex_8e157 s m args below meth c H locs 0 0 Q (F0 m 9 ls []) := by
    intro  H locs X ls hl h0
    unfold b_J3_checkIndex_8e157_9 at h0
    cases h0
  refine lv_iload_n hx hb dJ3_checkIndex_8e157_0 rfl (lv_at hl 0 rfl) ?_
  refine lv_if_lt (tgt := 9) hx hb dJ3_checkIndex_8e157_1 (by decide) (fun c1 => ?_) (fun c1 => ?_)
  · have h0 := if_t c1 h0
    exact J9  H locs X ls (lv_sub hl [0, 1, 2] rfl) h0
  · have h0 := if_f c1 h0
    refine lv_iload_n hx hb dJ3_checkIndex_8e157_4 rfl (lv_at hl 0 rfl) ?_
    refine lv_iload_n hx hb dJ3_checkIndex_8e157_5 rfl (lv_at hl 1 rfl) ?_
    refine lv_icmp_lt (tgt := 16) hx hb dJ3_checkIndex_8e157_6 (by decide) (fun c2 => ?_) (fun c2 => ?_)
    · have h0 := if_t c2 h0
      refine lv_iload_n hx hb dJ3_checkIndex_8e157_16 rfl (lv_at hl 0 rfl) ?_
      have h0 := Option.some.inj h0
      subst h0
      subst hQ
      exact w_iret K hr0 X rfl hsz dJ3_checkIndex_8e157_17
    · have h0 := if_f c2 h0
      exact J9  H locs X ls (lv_sub hl [0, 1, 2] rfl) h0
-- J0_checkIndex_df160
def f_J0_checkIndex_df160 (a1 : Int32) (a2 : Int32) : Option Unit :=
  ob (f_J3_checkIndex_8e157 a1 a2) fun x2 =>
  some ()
abbrev rm_J0_checkIndex_df160 : Room := { frames := 1, cells := 0, slots := 0, locals := 22 }
set_option maxRecDepth 100000 in
set_option maxHeartbeats 4000000 in
theorem m_J0_checkIndex_df160 (l : Launch) (D : va_G) (ca : Nat → ClassId) (z : ZG) (ws : va_W) (a1 : Int32) (a2 : Int32)  (h0 : f_J0_checkIndex_df160 a1 a2 = some ()) (sz : Nat) : Met l yJ0_checkIndex_df160 (ws_ yJ0_checkIndex_df160 cJ0_checkIndex_df160 2 none) rm_J0_checkIndex_df160 (PCz z D ca (ws) sz [.int a1, .int a2]) (QMw D (ws) (ws) sz none) 0 0 (AL (ws) sz) := by
  refine met_z (by decide +kernel) (Nat.le_of_ble_eq_true rfl) (fun p e s m args below meth c K hr0 hZ X hsz ls hl => ?_)
  have K : MC D ca p s m args meth c cJ0_checkIndex_df160 2 RJ0 := K
  have hx := K.1
  have hb := K.2.1
  have hl : lv_has ls 2 [(0, .int a1), (1, .int a2)] := hl
  generalize hQ : MQ below _ args s 0 0 _ = Q
  unfold f_J0_checkIndex_df160 at h0
  suffices Z : ∀ (H : Heap) (locs : List Loc) (X : RW D (ws) s.heap H locs), W p l e rm_J0_checkIndex_df160 s m args below meth c H locs 0 0 Q (F0 m 0 ls []) from Z _ _ X
  intro H locs X
  refine lv_iload_n hx hb dJ0_checkIndex_df160_0 rfl (lv_at hl 0 rfl) ?_
  refine lv_iload_n hx hb dJ0_checkIndex_df160_1 rfl (lv_at hl 1 rfl) ?_
  refine z_fmt K hZ X rfl q484 dJ0_checkIndex_df160_2 (fun o1 => ?_)
  obtain ⟨x2, ex2, h0⟩ := ob_out h0
  have kx2 := m_J3_checkIndex_8e157 l D ca (ws) a1 a2 o1 x2 ex2 H.size
  refine w_callS0 K X rfl kx2 hl.1 3 q486 q487 q105 q488 hs_J3_checkIndex_8e157 ⟨⟨Nat.le_of_ble_eq_true rfl, Nat.le_of_ble_eq_true rfl⟩, rfl, rfl⟩ rfl rfl (Nat.le_of_ble_eq_true rfl) dJ0_checkIndex_df160_5 ⟨Nat.le_of_ble_eq_true rfl, Nat.le_of_ble_eq_true rfl⟩ rfl (fun H locs X => ?_)
  refine lv_pop hx hb dJ0_checkIndex_df160_8 rfl ?_
  have h0 := Option.some.inj h0
  subst hQ
  exact w_vret K hr0 X rfl hsz dJ0_checkIndex_df160_9
-- J1_charAt_3b067
def f_J1_charAt_3b067 (a1 : Nat) (a2 : Int32) : Option Int32 :=
  ob (f_J0_checkIndex_df160 a2 (nI (zlen a1))) fun x1 =>
  if 0 ≤ a2.toInt ∧ a2.toInt < (zlen a1 : Int) then
    some ((((zch a1 a2.toNatClampNeg) &&& 255).toUInt32 % 65536).toInt32)
  else none
abbrev rm_J1_charAt_3b067 : Room := { frames := 2, cells := 0, slots := 0, locals := 43 }
set_option maxRecDepth 100000 in
set_option maxHeartbeats 4000000 in
theorem m_J1_charAt_3b067 (l : Launch) (D : va_G) (ca : Nat → ClassId) (z : ZG) (ws : va_W) (a1 : Nat) (ha1 : a1 < 33) (a2 : Int32) (res : Int32) (h0 : f_J1_charAt_3b067 a1 a2 = some res) (sz : Nat) : Met l yJ1_charAt_3b067 (ws_ yJ1_charAt_3b067 cJ1_charAt_3b067 2 (some .char)) rm_J1_charAt_3b067 (PCz z D ca (ws) sz [.ref (z.2.1 a1), .int a2]) (QMw D (ws) (ws) sz (some (.int res))) 0 0 (AL (ws) sz) := by
  refine met_z (by decide +kernel) (Nat.le_of_ble_eq_true rfl) (fun p e s m args below meth c K hr0 hZ X hsz ls hl => ?_)
  have K : MC D ca p s m args meth c cJ1_charAt_3b067 2 RJ1 := K
  have hx := K.1
  have hb := K.2.1
  have hl : lv_has ls 2 [(0, .ref (z.2.1 a1)), (1, .int a2)] := hl
  generalize hQ : MQ below _ args s 0 0 _ = Q
  unfold f_J1_charAt_3b067 at h0
  suffices Z : ∀ (H : Heap) (locs : List Loc) (X : RW D (ws) s.heap H locs), W p l e rm_J1_charAt_3b067 s m args below meth c H locs 0 0 Q (F0 m 0 ls []) from Z _ _ X
  intro H locs X
  refine lv_iload_n hx hb dJ1_charAt_3b067_0 rfl (lv_at hl 1 rfl) ?_
  refine lv_aload_n hx hb dJ1_charAt_3b067_1 rfl (lv_at hl 0 rfl) ?_
  refine z_len K hZ X rfl ha1 dJ1_charAt_3b067_2 ?_
  obtain ⟨x1, ex1, h0⟩ := ob_out h0
  have kx1 := m_J0_checkIndex_df160 l D ca z (ws) a2 (nI (zlen a1))  ex1 H.size
  refine z_callS K hZ X rfl rfl kx1 hl.1 2 q692 q482 q95 q483 hs_J0_checkIndex_df160 ⟨⟨Nat.le_of_ble_eq_true rfl, Nat.le_of_ble_eq_true rfl⟩, rfl, rfl⟩ rfl rfl (Nat.le_of_ble_eq_true rfl) dJ1_charAt_3b067_3 ⟨Nat.le_of_ble_eq_true rfl, Nat.le_of_ble_eq_true rfl⟩ rfl (fun H locs X => ?_)
  refine lv_aload_n hx hb dJ1_charAt_3b067_6 rfl (lv_at hl 0 rfl) ?_
  refine lv_iload_n hx hb dJ1_charAt_3b067_7 rfl (lv_at hl 1 rfl) ?_
  obtain ⟨c2, h0⟩ := if_o h0
  refine z_bald K hZ X rfl ha1 (inb_vp c2) dJ1_charAt_3b067_8 ?_
  refine lv_sipush (v := 255) hx hb dJ1_charAt_3b067_9 (by decide) ?_
  refine lv_iand hx hb dJ1_charAt_3b067_12 ?_
  refine lv_i2c hx hb dJ1_charAt_3b067_13 rfl ?_
  have h0 := Option.some.inj h0
  subst h0
  subst hQ
  exact w_nret K hr0 X rfl hsz (pk_nc _) dJ1_charAt_3b067_14
-- J0_charAt_5068e
def f_J0_charAt_5068e (a0 : Nat) (a1 : Int32) : Option Int32 :=
  ob (f_J1_charAt_3b067 a0 a1) fun x3 =>
  if 0 ≤ x3.toInt ∧ x3.toInt < 65536 then
    some x3
  else none
abbrev rm_J0_charAt_5068e : Room := { frames := 3, cells := 0, slots := 0, locals := 64 }
set_option maxRecDepth 100000 in
set_option maxHeartbeats 4000000 in
theorem m_J0_charAt_5068e (l : Launch) (D : va_G) (ca : Nat → ClassId) (z : ZG) (ws : va_W) (a0 : Nat) (ha0 : a0 < 33) (a1 : Int32) (res : Int32) (h0 : f_J0_charAt_5068e a0 a1 = some res) (sz : Nat) : Met l yJ0_charAt_5068e (ws_ yJ0_charAt_5068e cJ0_charAt_5068e 2 (some .char)) rm_J0_charAt_5068e (PCz z D ca (ws) sz [.ref (z.1 a0), .int a1]) (QMw D (ws) (ws) sz (some (.int res))) 0 0 (AL (ws) sz) := by
  refine met_z (by decide +kernel) (Nat.le_of_ble_eq_true rfl) (fun p e s m args below meth c K hr0 hZ X hsz ls hl => ?_)
  have K : MC D ca p s m args meth c cJ0_charAt_5068e 2 RJ0 := K
  have hx := K.1
  have hb := K.2.1
  have hl : lv_has ls 2 [(0, .ref (z.1 a0)), (1, .int a1)] := hl
  generalize hQ : MQ below _ args s 0 0 _ = Q
  unfold f_J0_charAt_5068e at h0
  suffices Z : ∀ (H : Heap) (locs : List Loc) (X : RW D (ws) s.heap H locs), W p l e rm_J0_charAt_5068e s m args below meth c H locs 0 0 Q (F0 m 0 ls []) from Z _ _ X
  intro H locs X
  refine lv_aload_n hx hb dJ0_charAt_5068e_0 rfl (lv_at hl 0 rfl) ?_
  have kx1 := m_J0_isLatin1_aae02 l D ca z (ws) a0 ha0 true rfl H.size
  refine z_callV K hZ X rfl rfl kx1 hl.1 0 q685 q686 q687 q95 q688 hv_J0_isLatin1_aae02 ⟨⟨Nat.le_of_ble_eq_true rfl, Nat.le_of_ble_eq_true rfl⟩, rfl, rfl⟩ (z_recv hZ X rfl ha0) rfl rfl (Nat.le_of_ble_eq_true rfl) dJ0_charAt_5068e_1 ⟨Nat.le_of_ble_eq_true rfl, Nat.le_of_ble_eq_true rfl⟩ rfl (fun H locs X => ?_)
  refine w_zeq (tgt := 16) K dJ0_charAt_5068e_4 (by decide) (fun c2 => False.elim (by revert c2; decide)) (fun c2 => ?_)
  refine lv_aload_n hx hb dJ0_charAt_5068e_7 rfl (lv_at hl 0 rfl) ?_
  refine z_val K hZ X rfl ha0 q1256 dJ0_charAt_5068e_8 ?_
  refine lv_iload_n hx hb dJ0_charAt_5068e_11 rfl (lv_at hl 1 rfl) ?_
  obtain ⟨x3, ex3, h0⟩ := ob_out h0
  have kx3 := m_J1_charAt_3b067 l D ca z (ws) a0 ha0 a1 x3 ex3 H.size
  refine z_callS K hZ X rfl rfl kx3 hl.1 2 q689 q690 q104 q691 hs_J1_charAt_3b067 ⟨⟨Nat.le_of_ble_eq_true rfl, Nat.le_of_ble_eq_true rfl⟩, rfl, rfl⟩ rfl rfl (Nat.le_of_ble_eq_true rfl) dJ0_charAt_5068e_12 ⟨Nat.le_of_ble_eq_true rfl, Nat.le_of_ble_eq_true rfl⟩ rfl (fun H locs X => ?_)
  obtain ⟨c4, h0⟩ := if_o h0
  have h0 := Option.some.inj h0
  subst h0
  subst hQ
  exact w_nret K hr0 X rfl hsz (nar_c c4) dJ0_charAt_5068e_15
-- J0_getBytes_840e7
def f_J0_getBytes_840e7 (G : GlbS) (a0 : Nat) (a2 : Int32) (a3 : Int32) : Option GlbS :=
  if 0 = a3 then
    if 0 ≤ (a2 <<< (a3 &&& 31)).toInt ∧ 0 ≤ (nI (zlen a0)).toInt ∧ (nI (zlen a0)).toInt ≤ (zlen a0 : Int) ∧ (a2 <<< (a3 &&& 31)).toInt + (nI (zlen a0)).toInt ≤ 16 then
      lt (va_up G 6 (va_cpy (zch a0) (G 6) 0 (a2 <<< (a3 &&& 31)).toNatClampNeg (nI (zlen a0)).toNatClampNeg)) fun Gv4 =>
      some Gv4
    else none
  else
    none
abbrev rm_J0_getBytes_840e7 : Room := { frames := 1, cells := 0, slots := 0, locals := 120 }
set_option maxRecDepth 100000 in
set_option maxHeartbeats 4000000 in
theorem m_J0_getBytes_840e7 (l : Launch) (D : va_G) (ca : Nat → ClassId) (ar : Nat → Nat → Nat) (ag : Nat → Nat) (z : ZG) (P : RowsS) (G : GlbS) (xs : va_W) (a0 : Nat) (ha0 : a0 < 33) (a2 : Int32) (a3 : Int32) (G' : GlbS) (h0 : f_J0_getBytes_840e7 G a0 a2 a3 = some G') (sz : Nat) : Met l yJ0_getBytes_840e7 (ws_ yJ0_getBytes_840e7 cJ0_getBytes_840e7 4 none) rm_J0_getBytes_840e7 (PCz z D ca (wC ar ag ca P G ++ xs) sz [.ref (z.1 a0), .ref (ag 6), .int a2, .int a3]) (QMw D (wC ar ag ca P G ++ xs) (wC ar ag ca P (G') ++ xs) sz none) 0 0 (AL (wC ar ag ca P G ++ xs) sz) := by
  refine met_z (by decide +kernel) (Nat.le_of_ble_eq_true rfl) (fun p e s m args below meth c K hr0 hZ X hsz ls hl => ?_)
  have K : MC D ca p s m args meth c cJ0_getBytes_840e7 4 RJ0 := K
  have hx := K.1
  have hb := K.2.1
  have hl : lv_has ls 4 [(0, .ref (z.1 a0)), (1, .ref (ag 6)), (2, .int a2), (3, .int a3)] := hl
  generalize hQ : MQ below _ args s 0 0 _ = Q
  unfold f_J0_getBytes_840e7 at h0
  suffices Z : ∀ (H : Heap) (locs : List Loc) (X : RW D (wC ar ag ca P G ++ xs) s.heap H locs), W p l e rm_J0_getBytes_840e7 s m args below meth c H locs 0 0 Q (F0 m 0 ls []) from Z _ _ X
  intro H locs X
  refine lv_aload_n hx hb dJ0_getBytes_840e7_0 rfl (lv_at hl 0 rfl) ?_
  have kx1 := m_J0_coder_7d493 l D ca z (wC ar ag ca P G ++ xs) a0 ha0 0 rfl H.size
  refine z_callV K hZ X wC_fstx wC_fstx kx1 hl.1 0 q676 q677 q678 q95 q679 hv_J0_coder_7d493 ⟨⟨Nat.le_of_ble_eq_true rfl, Nat.le_of_ble_eq_true rfl⟩, rfl, rfl⟩ (z_recv hZ X wC_fstx ha0) rfl rfl (Nat.le_of_ble_eq_true rfl) dJ0_getBytes_840e7_1 ⟨Nat.le_of_ble_eq_true rfl, Nat.le_of_ble_eq_true rfl⟩ rfl (fun H locs X => ?_)
  refine lv_iload_n hx hb dJ0_getBytes_840e7_4 rfl (lv_at hl 3 rfl) ?_
  refine lv_icmp_ne (tgt := 28) hx hb dJ0_getBytes_840e7_5 (by decide) (fun c2 => ?_) (fun c2 => ?_)
  · have h0 := if_f c2 h0
    refine lv_aload_n hx hb dJ0_getBytes_840e7_28 rfl (lv_at hl 0 rfl) ?_
    refine z_val K hZ X wC_fstx ha0 q1256 dJ0_getBytes_840e7_29 ?_
    refine lv_iconst (v := 0) hx hb dJ0_getBytes_840e7_32 (by decide) ?_
    refine lv_aload_n hx hb dJ0_getBytes_840e7_33 rfl (lv_at hl 1 rfl) ?_
    refine lv_iload_n hx hb dJ0_getBytes_840e7_34 rfl (lv_at hl 2 rfl) ?_
    refine lv_aload_n hx hb dJ0_getBytes_840e7_35 rfl (lv_at hl 0 rfl) ?_
    refine z_val K hZ X wC_fstx ha0 q1256 dJ0_getBytes_840e7_36 ?_
    refine z_len K hZ X wC_fstx ha0 dJ0_getBytes_840e7_39 ?_
    cases h0
  · have h0 := if_t c2 h0
    refine lv_aload_n hx hb dJ0_getBytes_840e7_8 rfl (lv_at hl 0 rfl) ?_
    refine z_val K hZ X wC_fstx ha0 q1256 dJ0_getBytes_840e7_9 ?_
    refine lv_iconst (v := 0) hx hb dJ0_getBytes_840e7_12 (by decide) ?_
    refine lv_aload_n hx hb dJ0_getBytes_840e7_13 rfl (lv_at hl 1 rfl) ?_
    refine lv_iload_n hx hb dJ0_getBytes_840e7_14 rfl (lv_at hl 2 rfl) ?_
    refine lv_iload_n hx hb dJ0_getBytes_840e7_15 rfl (lv_at hl 3 rfl) ?_
    refine lv_ishl hx hb dJ0_getBytes_840e7_16 ?_
    refine lv_aload_n hx hb dJ0_getBytes_840e7_17 rfl (lv_at hl 0 rfl) ?_
    refine z_val K hZ X wC_fstx ha0 q1256 dJ0_getBytes_840e7_18 ?_
    refine z_len K hZ X wC_fstx ha0 dJ0_getBytes_840e7_21 ?_
    obtain ⟨c3, h0⟩ := if_o h0
    obtain ⟨Gv4, eGv4, h0⟩ := lt_out h0
    refine z_copy K hZ X wC_fstx hl.1 ha0 c3 eGv4 q1186 q1108 q1107 q109 (Nat.le_of_ble_eq_true rfl) (Nat.le_of_ble_eq_true rfl) dJ0_getBytes_840e7_22 (fun H locs X => ?_)
    refine lv_goto (tgt := 43) hx hb dJ0_getBytes_840e7_25 (by decide) ?_
    have h0 := Option.some.inj h0
    subst h0
    subst hQ
    exact w_vret K hr0 X wC_fstx hsz dJ0_getBytes_840e7_43
-- J1_canEncode_fc78d
def f_J1_canEncode_fc78d (a1 : Int32) : Bool :=
  if 255 < a1 then
    false
  else
    true
abbrev rm_J1_canEncode_fc78d : Room := { frames := 0, cells := 0, slots := 0, locals := 0 }
set_option maxRecDepth 100000 in
set_option maxHeartbeats 4000000 in
theorem m_J1_canEncode_fc78d (l : Launch) (D : va_G) (ca : Nat → ClassId) (ws : va_W) (a1 : Int32) (res : Bool) (h0 : f_J1_canEncode_fc78d a1 = res) (sz : Nat) : Met l yJ1_canEncode_fc78d (ws_ yJ1_canEncode_fc78d cJ1_canEncode_fc78d 1 (some .boolean)) rm_J1_canEncode_fc78d (PCw D ca (ws) sz [.int a1]) (QMw D (ws) (ws) sz (some (.int (b2i res)))) 0 0 (AL (ws) sz) := by
  refine met_ofF (by decide +kernel) (Nat.le_of_ble_eq_true rfl) (fun p e s m args below meth c K hr0 X hsz ls hl => ?_)
  have K : MC D ca p s m args meth c cJ1_canEncode_fc78d 1 RJ1 := K
  have hx := K.1
  have hb := K.2.1
  have hl : lv_has ls 1 [(0, .int a1)] := hl
  generalize hQ : MQ below _ args s 0 0 _ = Q
  unfold f_J1_canEncode_fc78d at h0
  suffices Z : ∀ (H : Heap) (locs : List Loc) (X : RW D (ws) s.heap H locs), W p l e rm_J1_canEncode_fc78d s m args below meth c H locs 0 0 Q (F0 m 0 ls []) from Z _ _ X
  intro H locs X
  refine lv_iload_n hx hb dJ1_canEncode_fc78d_0 rfl (lv_at hl 0 rfl) ?_
  refine lv_sipush (v := 255) hx hb dJ1_canEncode_fc78d_1 (by decide) ?_
  refine lv_icmp_gt (tgt := 11) hx hb dJ1_canEncode_fc78d_4 (by decide) (fun c1 => ?_) (fun c1 => ?_)
  · have h0 := if_t c1 h0
    refine lv_iconst (v := 0) hx hb dJ1_canEncode_fc78d_11 (by decide) ?_
    subst h0
    subst hQ
    refine w_int (y := b2i false) (by decide) ?_
    exact w_zret K hr0 X rfl hsz (b2i_nar _) dJ1_canEncode_fc78d_12
  · have h0 := if_f c1 h0
    refine lv_iconst (v := 1) hx hb dJ1_canEncode_fc78d_7 (by decide) ?_
    refine lv_goto (tgt := 12) hx hb dJ1_canEncode_fc78d_8 (by decide) ?_
    subst h0
    subst hQ
    refine w_int (y := b2i true) (by decide) ?_
    exact w_zret K hr0 X rfl hsz (b2i_nar _) dJ1_canEncode_fc78d_12
-- J6_stringSize_0f7a4
def b_J6_stringSize_0f7a4_42  (y42_l1 : Int32) : Option Int32 :=
  some (10 + y42_l1)
def l_J6_stringSize_0f7a4_16 (y11_l0 : Int32) (y11_l1 : Int32) (z16_2 : Int32) (z16_3 : Int32) : Option ((Int32 × Int32) ⊕ (Unit ⊕ Int32)) :=
  if 10 ≤ z16_3 then
    some (.inr (.inl ()))
  else
    if y11_l0 ≤ z16_2 then
      lt (10 * z16_2) fun x4 =>
      lt (z16_3 + 1) fun x5 =>
      some (.inl (x4, x5))
    else
      some (.inr (.inr (z16_3 + y11_l1)))
def b_J6_stringSize_0f7a4_11 (n : Nat) (y11_l0 : Int32) (y11_l1 : Int32) : Option Int32 :=
  ob (wloop (fun t => l_J6_stringSize_0f7a4_16 y11_l0 y11_l1 t.1 t.2) n ((-10), 1)) (fun t => match t with | .inl t => b_J6_stringSize_0f7a4_42 y11_l1 | .inr r => some r)
def f_J6_stringSize_0f7a4 (n : Nat) (a1 : Int32) : Option Int32 :=
  if a1 < 0 then
    b_J6_stringSize_0f7a4_11 n a1 1
  else
    lt (-a1) fun x6 =>
    b_J6_stringSize_0f7a4_11 n x6 0
abbrev rm_J6_stringSize_0f7a4 : Room := { frames := 0, cells := 0, slots := 0, locals := 0 }
set_option maxRecDepth 100000 in
set_option maxHeartbeats 4000000 in
theorem m_J6_stringSize_0f7a4 (l : Launch) (D : va_G) (ca : Nat → ClassId) (n : Nat) (ws : va_W) (a1 : Int32) (res : Int32) (h0 : f_J6_stringSize_0f7a4 n a1 = some res) (sz : Nat) : Met l yJ6_stringSize_0f7a4 (ws_ yJ6_stringSize_0f7a4 cJ6_stringSize_0f7a4 4 (some .int)) rm_J6_stringSize_0f7a4 (PCw D ca (ws) sz [.int a1]) (QMw D (ws) (ws) sz (some (.int res))) 0 0 (AL (ws) sz) := by
  refine met_ofF (by decide +kernel) (Nat.le_of_ble_eq_true rfl) (fun p e s m args below meth c K hr0 X hsz ls hl => ?_)
  have K : MC D ca p s m args meth c cJ6_stringSize_0f7a4 4 RJ6 := K
  have hx := K.1
  have hb := K.2.1
  have hl : lv_has ls 4 [(0, .int a1)] := hl
  generalize hQ : MQ below _ args s 0 0 _ = Q
  unfold f_J6_stringSize_0f7a4 at h0
  suffices Z : ∀ (H : Heap) (locs : List Loc) (X : RW D (ws) s.heap H locs), W p l e rm_J6_stringSize_0f7a4 s m args below meth c H locs 0 0 Q (F0 m 0 ls []) from Z _ _ X
  intro H locs X
  have J42 : ∀ (y42_l1 : Int32) (H : Heap) (locs : List Loc) (X : RW D (ws) s.heap H locs) (ls : Array Slot) (hl : lv_has ls 4 [(1, .int y42_l1)]) (h0 : b_J6_stringSize_0f7a4_42 y42_l1 = some res), W p l e rm_J6_stringSize_0f7a4 s m args below meth c H locs 0 0 Q (F0 m 42 ls []) := by
    intro y42_l1 H locs X ls hl h0
    unfold b_J6_stringSize_0f7a4_42 at h0
    refine lv_bipush (v := 10) hx hb dJ6_stringSize_0f7a4_42 (by decide) ?_
    refine lv_iload_n hx hb dJ6_stringSize_0f7a4_44 rfl (lv_at hl 0 rfl) ?_
    refine lv_iadd hx hb dJ6_stringSize_0f7a4_45 ?_
    have h0 := Option.some.inj h0
    subst h0
    subst hQ
    exact w_iret K hr0 X rfl hsz dJ6_stringSize_0f7a4_46
  have J11 : ∀ (y11_l0 : Int32) (y11_l1 : Int32) (H : Heap) (locs : List Loc) (X : RW D (ws) s.heap H locs) (ls : Array Slot) (hl : lv_has ls 4 [(0, .int y11_l0), (1, .int y11_l1)]) (h0 : b_J6_stringSize_0f7a4_11 n y11_l0 y11_l1 = some res), W p l e rm_J6_stringSize_0f7a4 s m args below meth c H locs 0 0 Q (F0 m 11 ls []) := by
    intro y11_l0 y11_l1 H locs X ls hl h0
    unfold b_J6_stringSize_0f7a4_11 at h0
    refine lv_bipush (v := (-10)) hx hb dJ6_stringSize_0f7a4_11 (by decide) ?_
    refine lv_istore_n (lv' := [(2, .int (-10)), (0, .int y11_l0), (1, .int y11_l1)]) hx hb dJ6_stringSize_0f7a4_13 rfl hl (by decide) rfl (fun ls hl => ?_)
    refine lv_iconst (v := 1) hx hb dJ6_stringSize_0f7a4_14 (by decide) ?_
    refine lv_istore_n (lv' := [(3, .int 1), (2, .int (-10)), (0, .int y11_l0), (1, .int y11_l1)]) hx hb dJ6_stringSize_0f7a4_15 rfl hl (by decide) rfl (fun ls hl => ?_)
    obtain ⟨e_1, he1, h0⟩ := ob_out h0
    have K16 : ∀ (k : Nat) (z16_2 : Int32) (z16_3 : Int32) (H : Heap) (locs : List Loc) (X : RW D (ws) s.heap H locs) (ls : Array Slot) (hl : lv_has ls 4 [(0, .int y11_l0), (1, .int y11_l1), (2, .int z16_2), (3, .int z16_3)]) (hw : wloop (fun t => l_J6_stringSize_0f7a4_16 y11_l0 y11_l1 t.1 t.2) k (z16_2, z16_3) = some e_1), W p l e rm_J6_stringSize_0f7a4 s m args below meth c H locs 0 0 Q (F0 m 16 ls []) := by
      intro k
      induction k with
      | zero => intro z16_2 z16_3 H locs X ls hl hw; exact (wloop_0 hw).elim
      | succ k ih1 =>
        intro z16_2 z16_3 H locs X ls hl hw
        obtain ⟨x_1, h1, hx1⟩ := wloop_out hw
        have h1 : l_J6_stringSize_0f7a4_16 y11_l0 y11_l1 z16_2 z16_3 = some x_1 := h1
        unfold l_J6_stringSize_0f7a4_16 at h1
        refine lv_iload_n hx hb dJ6_stringSize_0f7a4_16 rfl (lv_at hl 3 rfl) ?_
        refine lv_bipush (v := 10) hx hb dJ6_stringSize_0f7a4_17 (by decide) ?_
        refine lv_icmp_ge (tgt := 42) hx hb dJ6_stringSize_0f7a4_19 (by decide) (fun c2 => ?_) (fun c2 => ?_)
        · have h1 := if_t c2 h1
          have q1 := wl_r h1 hx1
          exact J42 y11_l1 H locs X ls (lv_sub hl [1] rfl) (by rw [q1] at h0; exact h0)
        · have h1 := if_f c2 h1
          refine lv_iload_n hx hb dJ6_stringSize_0f7a4_22 rfl (lv_at hl 0 rfl) ?_
          refine lv_iload_n hx hb dJ6_stringSize_0f7a4_23 rfl (lv_at hl 2 rfl) ?_
          refine lv_icmp_le (tgt := 31) hx hb dJ6_stringSize_0f7a4_24 (by decide) (fun c3 => ?_) (fun c3 => ?_)
          · have h1 := if_t c3 h1
            refine lv_bipush (v := 10) hx hb dJ6_stringSize_0f7a4_31 (by decide) ?_
            refine lv_iload_n hx hb dJ6_stringSize_0f7a4_33 rfl (lv_at hl 2 rfl) ?_
            refine lv_imul hx hb dJ6_stringSize_0f7a4_34 ?_
            obtain ⟨x4, ex4, h1⟩ := lt_out h1
            refine w_int ex4 ?_
            refine lv_istore_n (lv' := [(2, .int x4), (0, .int y11_l0), (1, .int y11_l1), (3, .int z16_3)]) hx hb dJ6_stringSize_0f7a4_35 rfl hl (by decide) rfl (fun ls hl => ?_)
            obtain ⟨x5, ex5, h1⟩ := lt_out h1
            refine lv_iinc (v := x5) (lv' := [(3, .int x5), (2, .int x4), (0, .int y11_l0), (1, .int y11_l1)]) hx hb dJ6_stringSize_0f7a4_36 hl (k := 3) rfl (by rw [ex5]; rfl) (by decide) rfl (fun ls hl => ?_)
            refine lv_goto (tgt := 16) hx hb dJ6_stringSize_0f7a4_39 (by decide) ?_
            exact ih1 x4 x5 H locs X ls (lv_sub hl [2, 3, 1, 0] rfl) (wl_l h1 hx1)
          · have h1 := if_f c3 h1
            refine lv_iload_n hx hb dJ6_stringSize_0f7a4_27 rfl (lv_at hl 3 rfl) ?_
            refine lv_iload_n hx hb dJ6_stringSize_0f7a4_28 rfl (lv_at hl 1 rfl) ?_
            refine lv_iadd hx hb dJ6_stringSize_0f7a4_29 ?_
            have q1 := wl_r h1 hx1
            rw [q1] at h0
            have h0 : some (z16_3 + y11_l1) = some res := h0
            have h0 := Option.some.inj h0
            subst h0
            subst hQ
            exact w_iret K hr0 X rfl hsz dJ6_stringSize_0f7a4_30
    exact K16 n (-10) 1 H locs X ls (lv_sub hl [2, 3, 1, 0] rfl) he1
  refine lv_iconst (v := 1) hx hb dJ6_stringSize_0f7a4_0 (by decide) ?_
  refine lv_istore_n (lv' := [(1, .int 1), (0, .int a1)]) hx hb dJ6_stringSize_0f7a4_1 rfl hl (by decide) rfl (fun ls hl => ?_)
  refine lv_iload_n hx hb dJ6_stringSize_0f7a4_2 rfl (lv_at hl 1 rfl) ?_
  refine lv_if_lt (tgt := 11) hx hb dJ6_stringSize_0f7a4_3 (by decide) (fun c1 => ?_) (fun c1 => ?_)
  · have h0 := if_t c1 h0
    exact J11 a1 1 H locs X ls (lv_sub hl [1, 0] rfl) h0
  · have h0 := if_f c1 h0
    refine lv_iconst (v := 0) hx hb dJ6_stringSize_0f7a4_6 (by decide) ?_
    refine lv_istore_n (lv' := [(1, .int 0), (0, .int a1)]) hx hb dJ6_stringSize_0f7a4_7 rfl hl (by decide) rfl (fun ls hl => ?_)
    refine lv_iload_n hx hb dJ6_stringSize_0f7a4_8 rfl (lv_at hl 1 rfl) ?_
    refine lv_ineg hx hb dJ6_stringSize_0f7a4_9 ?_
    obtain ⟨x6, ex6, h0⟩ := lt_out h0
    refine w_int ex6 ?_
    refine lv_istore_n (lv' := [(0, .int x6), (1, .int 0)]) hx hb dJ6_stringSize_0f7a4_10 rfl hl (by decide) rfl (fun ls hl => ?_)
    exact J11 x6 0 H locs X ls (lv_sub hl [0, 1] rfl) h0
-- J6_getChars_ba4f3
def b_J6_getChars_ba4f3_104  (y104_l5 : Int32) (y104_l6 : Int32) (G_104 : GlbS) : Option (Int32 × GlbS) :=
  if y104_l6 = 0 then
    some (y104_l5, G_104)
  else
    lt (y104_l5 + (-1)) fun x11 =>
    if 0 ≤ x11.toInt ∧ x11.toInt < 16 then
      lt (sg G_104 6 x11.toNatClampNeg 45) fun Gv13 =>
      some (x11, Gv13)
    else none
def b_J6_getChars_ba4f3_72  (y72_l0 : Int32) (y72_l5 : Int32) (y72_l6 : Int32) (G_72 : GlbS) : Option (Int32 × GlbS) :=
  lt (y72_l5 + (-1)) fun x4 =>
  if 0 ≤ (-y72_l0).toInt ∧ (-y72_l0).toInt < 100 then
    if 0 ≤ x4.toInt ∧ x4.toInt < 16 then
    if (zDigitOnes.getD (-y72_l0).toNatClampNeg 0).toInt8.toInt32 = (zDigitOnes.getD (-y72_l0).toNatClampNeg 0) then
      lt (sg G_72 6 x4.toNatClampNeg (zDigitOnes.getD (-y72_l0).toNatClampNeg 0)) fun Gv8 =>
      if (-9) ≤ y72_l0 then
        b_J6_getChars_ba4f3_104 x4 y72_l6 Gv8
      else
        lt (x4 + (-1)) fun x14 =>
        if 0 ≤ (-y72_l0).toInt ∧ (-y72_l0).toInt < 100 then
          if 0 ≤ x14.toInt ∧ x14.toInt < 16 then
          if (zDigitTens.getD (-y72_l0).toNatClampNeg 0).toInt8.toInt32 = (zDigitTens.getD (-y72_l0).toNatClampNeg 0) then
            lt (sg Gv8 6 x14.toNatClampNeg (zDigitTens.getD (-y72_l0).toNatClampNeg 0)) fun Gv18 =>
            b_J6_getChars_ba4f3_104 x14 y72_l6 Gv18
          else none
          else none
        else none
    else none
    else none
  else none
def l_J6_getChars_ba4f3_22  (z22_0 : Int32) (z22_5 : Int32) (Gz_22 : GlbS) : Option ((Int32 × Int32 × GlbS) ⊕ (Int32 × Int32 × GlbS)) :=
  if (-100) < z22_0 then
    some (.inr (z22_0, z22_5, Gz_22))
  else
    lt (z22_0 / 100) fun x19 =>
    lt ((x19 * 100) - z22_0) fun x20 =>
    lt (z22_5 + (-1)) fun x21 =>
    if 0 ≤ x20.toInt ∧ x20.toInt < 100 then
      if 0 ≤ x21.toInt ∧ x21.toInt < 16 then
      if (zDigitOnes.getD x20.toNatClampNeg 0).toInt8.toInt32 = (zDigitOnes.getD x20.toNatClampNeg 0) then
        lt (sg Gz_22 6 x21.toNatClampNeg (zDigitOnes.getD x20.toNatClampNeg 0)) fun Gv25 =>
        lt (x21 + (-1)) fun x26 =>
        if 0 ≤ x20.toInt ∧ x20.toInt < 100 then
          if 0 ≤ x26.toInt ∧ x26.toInt < 16 then
          if (zDigitTens.getD x20.toNatClampNeg 0).toInt8.toInt32 = (zDigitTens.getD x20.toNatClampNeg 0) then
            lt (sg Gv25 6 x26.toNatClampNeg (zDigitTens.getD x20.toNatClampNeg 0)) fun Gv30 =>
            some (.inl (x19, x26, Gv30))
          else none
          else none
        else none
      else none
      else none
    else none
def b_J6_getChars_ba4f3_22 (n : Nat) (y22_l0 : Int32) (y22_l5 : Int32) (y22_l6 : Int32) (G_22 : GlbS) : Option (Int32 × GlbS) :=
  ob (wloop (fun t => l_J6_getChars_ba4f3_22 t.1 t.2.1 t.2.2) n (y22_l0, y22_l5, G_22)) (fun t => b_J6_getChars_ba4f3_72 t.1 t.2.1 y22_l6 t.2.2)
def b_J6_getChars_ba4f3_12 (n : Nat) (y12_l0 : Int32) (y12_l5 : Int32) (y12_s0 : Int32) (G_12 : GlbS) : Option (Int32 × GlbS) :=
  if y12_s0 = 0 then
    lt (-y12_l0) fun x31 =>
    b_J6_getChars_ba4f3_22 n x31 y12_l5 y12_s0 G_12
  else
    b_J6_getChars_ba4f3_22 n y12_l0 y12_l5 y12_s0 G_12
def f_J6_getChars_ba4f3 (n : Nat) (G : GlbS) (a1 : Int32) (a2 : Int32) : Option (Int32 × GlbS) :=
  if 0 ≤ a1 then
    b_J6_getChars_ba4f3_12 n a1 a2 0 G
  else
    b_J6_getChars_ba4f3_12 n a1 a2 1 G
abbrev rm_J6_getChars_ba4f3 : Room := { frames := 0, cells := 0, slots := 0, locals := 0 }
set_option maxRecDepth 100000 in
set_option maxHeartbeats 4000000 in
theorem m_J6_getChars_ba4f3 (l : Launch) (D : va_G) (ca : Nat → ClassId) (ar : Nat → Nat → Nat) (ag : Nat → Nat) (z : ZG) (n : Nat) (P : RowsS) (G : GlbS) (xs : va_W) (a1 : Int32) (a2 : Int32) (res : Int32) (G' : GlbS) (h0 : f_J6_getChars_ba4f3 n G a1 a2 = some (res, G')) (sz : Nat) : Met l yJ6_getChars_ba4f3 (ws_ yJ6_getChars_ba4f3 cJ6_getChars_ba4f3 7 (some .int)) rm_J6_getChars_ba4f3 (PCz z D ca (wC ar ag ca P G ++ xs) sz [.int a1, .int a2, .ref (ag 6)]) (QMw D (wC ar ag ca P G ++ xs) (wC ar ag ca P (G') ++ xs) sz (some (.int res))) 0 0 (AL (wC ar ag ca P G ++ xs) sz) := by
  refine met_z (by decide +kernel) (Nat.le_of_ble_eq_true rfl) (fun p e s m args below meth c K hr0 hZ X hsz ls hl => ?_)
  have K : MC D ca p s m args meth c cJ6_getChars_ba4f3 7 RJ6 := K
  have hx := K.1
  have hb := K.2.1
  have hl : lv_has ls 7 [(0, .int a1), (1, .int a2), (2, .ref (ag 6))] := hl
  generalize hQ : MQ below _ args s 0 0 _ = Q
  unfold f_J6_getChars_ba4f3 at h0
  suffices Z : ∀ (H : Heap) (locs : List Loc) (X : RW D (wC ar ag ca P G ++ xs) s.heap H locs), W p l e rm_J6_getChars_ba4f3 s m args below meth c H locs 0 0 Q (F0 m 0 ls []) from Z _ _ X
  intro H locs X
  have J104 : ∀ (y104_l5 : Int32) (y104_l6 : Int32) (G_104 : GlbS) (H : Heap) (locs : List Loc) (X : RW D (wC ar ag ca P G_104 ++ xs) s.heap H locs) (ls : Array Slot) (hl : lv_has ls 7 [(2, .ref (ag 6)), (5, .int y104_l5), (6, .int y104_l6)]) (h0 : b_J6_getChars_ba4f3_104 y104_l5 y104_l6 G_104 = some (res, G')), W p l e rm_J6_getChars_ba4f3 s m args below meth c H locs 0 0 Q (F0 m 104 ls []) := by
    intro y104_l5 y104_l6 G_104 H locs X ls hl h0
    unfold b_J6_getChars_ba4f3_104 at h0
    refine lv_iload hx hb dJ6_getChars_ba4f3_104 (lv_at hl 2 rfl) ?_
    refine lv_if_eq (tgt := 118) hx hb dJ6_getChars_ba4f3_106 (by decide) (fun c10 => ?_) (fun c10 => ?_)
    · have h0 := if_t c10 h0
      refine lv_iload hx hb dJ6_getChars_ba4f3_118 (lv_at hl 1 rfl) ?_
      have h0 := Option.some.inj h0
      obtain ⟨q_0, q_1⟩ := Prod.mk.inj h0
      subst q_0
      subst q_1
      subst hQ
      exact w_iret K hr0 X wC_fstx hsz dJ6_getChars_ba4f3_120
    · have h0 := if_f c10 h0
      refine lv_aload_n hx hb dJ6_getChars_ba4f3_109 rfl (lv_at hl 0 rfl) ?_
      obtain ⟨x11, ex11, h0⟩ := lt_out h0
      refine lv_iinc (v := x11) (lv' := [(5, .int x11), (2, .ref (ag 6)), (6, .int y104_l6)]) hx hb dJ6_getChars_ba4f3_110 hl (k := 1) rfl (by rw [ex11]; rfl) (by decide) rfl (fun ls hl => ?_)
      refine lv_iload hx hb dJ6_getChars_ba4f3_113 (lv_at hl 0 rfl) ?_
      refine lv_bipush (v := 45) hx hb dJ6_getChars_ba4f3_115 (by decide) ?_
      obtain ⟨c12, h0⟩ := if_o h0
      obtain ⟨Gv13, eGv13, h0⟩ := lt_out h0
      refine s_sbb K X (inb_vp c12) (by decide) eGv13 dJ6_getChars_ba4f3_117 (fun H locs X => ?_)
      refine lv_iload hx hb dJ6_getChars_ba4f3_118 (lv_at hl 0 rfl) ?_
      have h0 := Option.some.inj h0
      obtain ⟨q_0, q_1⟩ := Prod.mk.inj h0
      subst q_0
      subst q_1
      subst hQ
      exact w_iret K hr0 X wC_fstx hsz dJ6_getChars_ba4f3_120
  have J72 : ∀ (y72_l0 : Int32) (y72_l5 : Int32) (y72_l6 : Int32) (G_72 : GlbS) (H : Heap) (locs : List Loc) (X : RW D (wC ar ag ca P G_72 ++ xs) s.heap H locs) (ls : Array Slot) (hl : lv_has ls 7 [(0, .int y72_l0), (2, .ref (ag 6)), (5, .int y72_l5), (6, .int y72_l6)]) (h0 : b_J6_getChars_ba4f3_72 y72_l0 y72_l5 y72_l6 G_72 = some (res, G')), W p l e rm_J6_getChars_ba4f3 s m args below meth c H locs 0 0 Q (F0 m 72 ls []) := by
    intro y72_l0 y72_l5 y72_l6 G_72 H locs X ls hl h0
    unfold b_J6_getChars_ba4f3_72 at h0
    refine lv_aload_n hx hb dJ6_getChars_ba4f3_72 rfl (lv_at hl 1 rfl) ?_
    obtain ⟨x4, ex4, h0⟩ := lt_out h0
    refine lv_iinc (v := x4) (lv' := [(5, .int x4), (0, .int y72_l0), (2, .ref (ag 6)), (6, .int y72_l6)]) hx hb dJ6_getChars_ba4f3_73 hl (k := 2) rfl (by rw [ex4]; rfl) (by decide) rfl (fun ls hl => ?_)
    refine lv_iload hx hb dJ6_getChars_ba4f3_76 (lv_at hl 0 rfl) ?_
    refine z_ones K hZ X wC_fstx q1201 dJ6_getChars_ba4f3_78 ?_
    refine lv_iload_n hx hb dJ6_getChars_ba4f3_81 rfl (lv_at hl 1 rfl) ?_
    refine lv_ineg hx hb dJ6_getChars_ba4f3_82 ?_
    obtain ⟨c5, h0⟩ := if_o h0
    refine z_onesat K hZ X wC_fstx (inb_vp c5) dJ6_getChars_ba4f3_83 ?_
    obtain ⟨c6, h0⟩ := if_o h0
    obtain ⟨c7, h0⟩ := if_o h0
    obtain ⟨Gv8, eGv8, h0⟩ := lt_out h0
    refine s_sbb K X (inb_vp c6) c7 eGv8 dJ6_getChars_ba4f3_84 (fun H locs X => ?_)
    refine lv_iload_n hx hb dJ6_getChars_ba4f3_85 rfl (lv_at hl 1 rfl) ?_
    refine lv_bipush (v := (-9)) hx hb dJ6_getChars_ba4f3_86 (by decide) ?_
    refine lv_icmp_ge (tgt := 104) hx hb dJ6_getChars_ba4f3_88 (by decide) (fun c9 => ?_) (fun c9 => ?_)
    · have h0 := if_t c9 h0
      exact J104 x4 y72_l6 Gv8 H locs X ls (lv_sub hl [2, 0, 3] rfl) h0
    · have h0 := if_f c9 h0
      refine lv_aload_n hx hb dJ6_getChars_ba4f3_91 rfl (lv_at hl 2 rfl) ?_
      obtain ⟨x14, ex14, h0⟩ := lt_out h0
      refine lv_iinc (v := x14) (lv' := [(5, .int x14), (0, .int y72_l0), (2, .ref (ag 6)), (6, .int y72_l6)]) hx hb dJ6_getChars_ba4f3_92 hl (k := 0) rfl (by rw [ex14]; rfl) (by decide) rfl (fun ls hl => ?_)
      refine lv_iload hx hb dJ6_getChars_ba4f3_95 (lv_at hl 0 rfl) ?_
      refine z_tens K hZ X wC_fstx q1203 dJ6_getChars_ba4f3_97 ?_
      refine lv_iload_n hx hb dJ6_getChars_ba4f3_100 rfl (lv_at hl 1 rfl) ?_
      refine lv_ineg hx hb dJ6_getChars_ba4f3_101 ?_
      obtain ⟨c15, h0⟩ := if_o h0
      refine z_tensat K hZ X wC_fstx (inb_vp c15) dJ6_getChars_ba4f3_102 ?_
      obtain ⟨c16, h0⟩ := if_o h0
      obtain ⟨c17, h0⟩ := if_o h0
      obtain ⟨Gv18, eGv18, h0⟩ := lt_out h0
      refine s_sbb K X (inb_vp c16) c17 eGv18 dJ6_getChars_ba4f3_103 (fun H locs X => ?_)
      exact J104 x14 y72_l6 Gv18 H locs X ls (lv_sub hl [2, 0, 3] rfl) h0
  have J22 : ∀ (y22_l0 : Int32) (y22_l5 : Int32) (y22_l6 : Int32) (G_22 : GlbS) (H : Heap) (locs : List Loc) (X : RW D (wC ar ag ca P G_22 ++ xs) s.heap H locs) (ls : Array Slot) (hl : lv_has ls 7 [(0, .int y22_l0), (2, .ref (ag 6)), (5, .int y22_l5), (6, .int y22_l6)]) (h0 : b_J6_getChars_ba4f3_22 n y22_l0 y22_l5 y22_l6 G_22 = some (res, G')), W p l e rm_J6_getChars_ba4f3 s m args below meth c H locs 0 0 Q (F0 m 22 ls []) := by
    intro y22_l0 y22_l5 y22_l6 G_22 H locs X ls hl h0
    unfold b_J6_getChars_ba4f3_22 at h0
    obtain ⟨e_1, he1, h0⟩ := ob_out h0
    have K22 : ∀ (k : Nat) (z22_0 : Int32) (z22_5 : Int32) (Gz_22 : GlbS) (H : Heap) (locs : List Loc) (X : RW D (wC ar ag ca P Gz_22 ++ xs) s.heap H locs) (ls : Array Slot) (hl : lv_has ls 7 [(0, .int z22_0), (2, .ref (ag 6)), (5, .int z22_5), (6, .int y22_l6)]) (hw : wloop (fun t => l_J6_getChars_ba4f3_22 t.1 t.2.1 t.2.2) k (z22_0, z22_5, Gz_22) = some e_1), W p l e rm_J6_getChars_ba4f3 s m args below meth c H locs 0 0 Q (F0 m 22 ls []) := by
      intro k
      induction k with
      | zero => intro z22_0 z22_5 Gz_22 H locs X ls hl hw; exact (wloop_0 hw).elim
      | succ k ih1 =>
        intro z22_0 z22_5 Gz_22 H locs X ls hl hw
        obtain ⟨x_1, h1, hx1⟩ := wloop_out hw
        have h1 : l_J6_getChars_ba4f3_22 z22_0 z22_5 Gz_22 = some x_1 := h1
        unfold l_J6_getChars_ba4f3_22 at h1
        refine lv_iload_n hx hb dJ6_getChars_ba4f3_22 rfl (lv_at hl 0 rfl) ?_
        refine lv_bipush (v := (-100)) hx hb dJ6_getChars_ba4f3_23 (by decide) ?_
        refine lv_icmp_gt (tgt := 72) hx hb dJ6_getChars_ba4f3_25 (by decide) (fun c3 => ?_) (fun c3 => ?_)
        · have h1 := if_t c3 h1
          have q1 := wl_r h1 hx1
          exact J72 z22_0 z22_5 y22_l6 Gz_22 H locs X ls (lv_sub hl [0, 1, 2, 3] rfl) (by rw [q1] at h0; exact h0)
        · have h1 := if_f c3 h1
          refine lv_iload_n hx hb dJ6_getChars_ba4f3_28 rfl (lv_at hl 0 rfl) ?_
          refine lv_bipush (v := 100) hx hb dJ6_getChars_ba4f3_29 (by decide) ?_
          refine lv_idiv hx hb dJ6_getChars_ba4f3_31 (by decide) ?_
          obtain ⟨x19, ex19, h1⟩ := lt_out h1
          refine w_int ex19 ?_
          refine lv_istore_n (lv' := [(3, .int x19), (0, .int z22_0), (2, .ref (ag 6)), (5, .int z22_5), (6, .int y22_l6)]) hx hb dJ6_getChars_ba4f3_32 rfl hl (by decide) rfl (fun ls hl => ?_)
          refine lv_iload_n hx hb dJ6_getChars_ba4f3_33 rfl (lv_at hl 0 rfl) ?_
          refine lv_bipush (v := 100) hx hb dJ6_getChars_ba4f3_34 (by decide) ?_
          refine lv_imul hx hb dJ6_getChars_ba4f3_36 ?_
          refine lv_iload_n hx hb dJ6_getChars_ba4f3_37 rfl (lv_at hl 1 rfl) ?_
          refine lv_isub hx hb dJ6_getChars_ba4f3_38 ?_
          obtain ⟨x20, ex20, h1⟩ := lt_out h1
          refine w_int ex20 ?_
          refine lv_istore (lv' := [(4, .int x20), (3, .int x19), (0, .int z22_0), (2, .ref (ag 6)), (5, .int z22_5), (6, .int y22_l6)]) hx hb dJ6_getChars_ba4f3_39 hl (by decide) rfl (fun ls hl => ?_)
          refine lv_iload_n hx hb dJ6_getChars_ba4f3_41 rfl (lv_at hl 1 rfl) ?_
          refine lv_istore_n (lv' := [(0, .int x19), (4, .int x20), (3, .int x19), (2, .ref (ag 6)), (5, .int z22_5), (6, .int y22_l6)]) hx hb dJ6_getChars_ba4f3_42 rfl hl (by decide) rfl (fun ls hl => ?_)
          refine lv_aload_n hx hb dJ6_getChars_ba4f3_43 rfl (lv_at hl 3 rfl) ?_
          obtain ⟨x21, ex21, h1⟩ := lt_out h1
          refine lv_iinc (v := x21) (lv' := [(5, .int x21), (0, .int x19), (4, .int x20), (3, .int x19), (2, .ref (ag 6)), (6, .int y22_l6)]) hx hb dJ6_getChars_ba4f3_44 hl (k := 4) rfl (by rw [ex21]; rfl) (by decide) rfl (fun ls hl => ?_)
          refine lv_iload hx hb dJ6_getChars_ba4f3_47 (lv_at hl 0 rfl) ?_
          refine z_ones K hZ X wC_fstx q1201 dJ6_getChars_ba4f3_49 ?_
          refine lv_iload hx hb dJ6_getChars_ba4f3_52 (lv_at hl 2 rfl) ?_
          obtain ⟨c22, h1⟩ := if_o h1
          refine z_onesat K hZ X wC_fstx (inb_vp c22) dJ6_getChars_ba4f3_54 ?_
          obtain ⟨c23, h1⟩ := if_o h1
          obtain ⟨c24, h1⟩ := if_o h1
          obtain ⟨Gv25, eGv25, h1⟩ := lt_out h1
          refine s_sbb K X (inb_vp c23) c24 eGv25 dJ6_getChars_ba4f3_55 (fun H locs X => ?_)
          refine lv_aload_n hx hb dJ6_getChars_ba4f3_56 rfl (lv_at hl 4 rfl) ?_
          obtain ⟨x26, ex26, h1⟩ := lt_out h1
          refine lv_iinc (v := x26) (lv' := [(5, .int x26), (0, .int x19), (4, .int x20), (3, .int x19), (2, .ref (ag 6)), (6, .int y22_l6)]) hx hb dJ6_getChars_ba4f3_57 hl (k := 0) rfl (by rw [ex26]; rfl) (by decide) rfl (fun ls hl => ?_)
          refine lv_iload hx hb dJ6_getChars_ba4f3_60 (lv_at hl 0 rfl) ?_
          refine z_tens K hZ X wC_fstx q1203 dJ6_getChars_ba4f3_62 ?_
          refine lv_iload hx hb dJ6_getChars_ba4f3_65 (lv_at hl 2 rfl) ?_
          obtain ⟨c27, h1⟩ := if_o h1
          refine z_tensat K hZ X wC_fstx (inb_vp c27) dJ6_getChars_ba4f3_67 ?_
          obtain ⟨c28, h1⟩ := if_o h1
          obtain ⟨c29, h1⟩ := if_o h1
          obtain ⟨Gv30, eGv30, h1⟩ := lt_out h1
          refine s_sbb K X (inb_vp c28) c29 eGv30 dJ6_getChars_ba4f3_68 (fun H locs X => ?_)
          refine lv_goto (tgt := 22) hx hb dJ6_getChars_ba4f3_69 (by decide) ?_
          exact ih1 x19 x26 Gv30 H locs X ls (lv_sub hl [1, 4, 0, 5] rfl) (wl_l h1 hx1)
    exact K22 n y22_l0 y22_l5 G_22 H locs X ls (lv_sub hl [0, 1, 2, 3] rfl) he1
  have J12 : ∀ (y12_l0 : Int32) (y12_l5 : Int32) (y12_s0 : Int32) (G_12 : GlbS) (H : Heap) (locs : List Loc) (X : RW D (wC ar ag ca P G_12 ++ xs) s.heap H locs) (ls : Array Slot) (hl : lv_has ls 7 [(0, .int y12_l0), (2, .ref (ag 6)), (5, .int y12_l5)]) (h0 : b_J6_getChars_ba4f3_12 n y12_l0 y12_l5 y12_s0 G_12 = some (res, G')), W p l e rm_J6_getChars_ba4f3 s m args below meth c H locs 0 0 Q (F0 m 12 ls [.int y12_s0]) := by
    intro y12_l0 y12_l5 y12_s0 G_12 H locs X ls hl h0
    unfold b_J6_getChars_ba4f3_12 at h0
    refine lv_istore (lv' := [(6, .int y12_s0), (0, .int y12_l0), (2, .ref (ag 6)), (5, .int y12_l5)]) hx hb dJ6_getChars_ba4f3_12 hl (by decide) rfl (fun ls hl => ?_)
    refine lv_iload hx hb dJ6_getChars_ba4f3_14 (lv_at hl 0 rfl) ?_
    refine lv_if_ne (tgt := 22) hx hb dJ6_getChars_ba4f3_16 (by decide) (fun c2 => ?_) (fun c2 => ?_)
    · have h0 := if_f c2 h0
      exact J22 y12_l0 y12_l5 y12_s0 G_12 H locs X ls (lv_sub hl [1, 2, 3, 0] rfl) h0
    · have h0 := if_t c2 h0
      refine lv_iload_n hx hb dJ6_getChars_ba4f3_19 rfl (lv_at hl 1 rfl) ?_
      refine lv_ineg hx hb dJ6_getChars_ba4f3_20 ?_
      obtain ⟨x31, ex31, h0⟩ := lt_out h0
      refine w_int ex31 ?_
      refine lv_istore_n (lv' := [(0, .int x31), (6, .int y12_s0), (2, .ref (ag 6)), (5, .int y12_l5)]) hx hb dJ6_getChars_ba4f3_21 rfl hl (by decide) rfl (fun ls hl => ?_)
      exact J22 x31 y12_l5 y12_s0 G_12 H locs X ls (lv_sub hl [0, 2, 3, 1] rfl) h0
  refine lv_iload_n hx hb dJ6_getChars_ba4f3_0 rfl (lv_at hl 1 rfl) ?_
  refine lv_istore (lv' := [(5, .int a2), (0, .int a1), (1, .int a2), (2, .ref (ag 6))]) hx hb dJ6_getChars_ba4f3_1 hl (by decide) rfl (fun ls hl => ?_)
  refine lv_iload_n hx hb dJ6_getChars_ba4f3_3 rfl (lv_at hl 1 rfl) ?_
  refine lv_if_ge (tgt := 11) hx hb dJ6_getChars_ba4f3_4 (by decide) (fun c1 => ?_) (fun c1 => ?_)
  · have h0 := if_t c1 h0
    refine lv_iconst (v := 0) hx hb dJ6_getChars_ba4f3_11 (by decide) ?_
    exact J12 a1 a2 0 G H locs X ls (lv_sub hl [1, 3, 0] rfl) h0
  · have h0 := if_f c1 h0
    refine lv_iconst (v := 1) hx hb dJ6_getChars_ba4f3_7 (by decide) ?_
    refine lv_goto (tgt := 12) hx hb dJ6_getChars_ba4f3_8 (by decide) ?_
    exact J12 a1 a2 1 G H locs X ls (lv_sub hl [1, 3, 0] rfl) h0
-- J5_ensureCapacityInternal_d00df
def f_J5_ensureCapacityInternal_d00df (G : GlbS) (a1 : Int32) : Option GlbS :=
  if (a1 - 16) ≤ 0 then
    some G
  else
    none
abbrev rm_J5_ensureCapacityInternal_d00df : Room := { frames := 0, cells := 0, slots := 0, locals := 0 }
set_option maxRecDepth 100000 in
set_option maxHeartbeats 4000000 in
theorem m_J5_ensureCapacityInternal_d00df (l : Launch) (D : va_G) (ca : Nat → ClassId) (ar : Nat → Nat → Nat) (ag : Nat → Nat) (z : ZG) (P : RowsS) (G : GlbS) (xs : va_W) (a1 : Int32) (G' : GlbS) (h0 : f_J5_ensureCapacityInternal_d00df G a1 = some G') (sz : Nat) : Met l yJ5_ensureCapacityInternal_d00df (ws_ yJ5_ensureCapacityInternal_d00df cJ5_ensureCapacityInternal_d00df 3 none) rm_J5_ensureCapacityInternal_d00df (PCz z D ca (wC ar ag ca P G ++ xs) sz [.ref (ag 5), .int a1]) (QMw D (wC ar ag ca P G ++ xs) (wC ar ag ca P (G') ++ xs) sz none) 0 0 (AL (wC ar ag ca P G ++ xs) sz) := by
  refine met_z (by decide +kernel) (Nat.le_of_ble_eq_true rfl) (fun p e s m args below meth c K hr0 hZ X hsz ls hl => ?_)
  have K : MC D ca p s m args meth c cJ5_ensureCapacityInternal_d00df 3 RJ5 := K
  have hx := K.1
  have hb := K.2.1
  have hl : lv_has ls 3 [(0, .ref (ag 5)), (1, .int a1)] := hl
  generalize hQ : MQ below _ args s 0 0 _ = Q
  unfold f_J5_ensureCapacityInternal_d00df at h0
  suffices Z : ∀ (H : Heap) (locs : List Loc) (X : RW D (wC ar ag ca P G ++ xs) s.heap H locs), W p l e rm_J5_ensureCapacityInternal_d00df s m args below meth c H locs 0 0 Q (F0 m 0 ls []) from Z _ _ X
  intro H locs X
  refine lv_aload_n hx hb dJ5_ensureCapacityInternal_d00df_0 rfl (lv_at hl 0 rfl) ?_
  refine g_sbv K X q333 dJ5_ensureCapacityInternal_d00df_1 ?_
  refine l_sbb K X dJ5_ensureCapacityInternal_d00df_4 ?_
  refine lv_aload_n hx hb dJ5_ensureCapacityInternal_d00df_5 rfl (lv_at hl 0 rfl) ?_
  refine g_sbc K X q334 dJ5_ensureCapacityInternal_d00df_6 ?_
  refine lv_ishr hx hb dJ5_ensureCapacityInternal_d00df_9 ?_
  refine w_int (y := 16) (by decide) ?_
  refine lv_istore_n (lv' := [(2, .int 16), (0, .ref (ag 5)), (1, .int a1)]) hx hb dJ5_ensureCapacityInternal_d00df_10 rfl hl (by decide) rfl (fun ls hl => ?_)
  refine lv_iload_n hx hb dJ5_ensureCapacityInternal_d00df_11 rfl (lv_at hl 2 rfl) ?_
  refine lv_iload_n hx hb dJ5_ensureCapacityInternal_d00df_12 rfl (lv_at hl 0 rfl) ?_
  refine lv_isub hx hb dJ5_ensureCapacityInternal_d00df_13 ?_
  refine lv_if_le (tgt := 38) hx hb dJ5_ensureCapacityInternal_d00df_14 (by decide) (fun c1 => ?_) (fun c1 => ?_)
  · have h0 := if_t c1 h0
    have h0 := Option.some.inj h0
    subst h0
    subst hQ
    exact w_vret K hr0 X wC_fstx hsz dJ5_ensureCapacityInternal_d00df_38
  · have h0 := if_f c1 h0
    refine lv_aload_n hx hb dJ5_ensureCapacityInternal_d00df_17 rfl (lv_at hl 1 rfl) ?_
    refine lv_aload_n hx hb dJ5_ensureCapacityInternal_d00df_18 rfl (lv_at hl 1 rfl) ?_
    refine g_sbv K X q333 dJ5_ensureCapacityInternal_d00df_19 ?_
    refine lv_aload_n hx hb dJ5_ensureCapacityInternal_d00df_22 rfl (lv_at hl 1 rfl) ?_
    refine lv_iload_n hx hb dJ5_ensureCapacityInternal_d00df_23 rfl (lv_at hl 2 rfl) ?_
    cases h0
-- J5_inflateIfNeededFor_a7421
def f_J5_inflateIfNeededFor_a7421 (G : GlbS) (a1 : Nat) : Unit :=
  ()
abbrev rm_J5_inflateIfNeededFor_a7421 : Room := { frames := 1, cells := 0, slots := 0, locals := 20 }
set_option maxRecDepth 100000 in
set_option maxHeartbeats 4000000 in
theorem m_J5_inflateIfNeededFor_a7421 (l : Launch) (D : va_G) (ca : Nat → ClassId) (ar : Nat → Nat → Nat) (ag : Nat → Nat) (z : ZG) (P : RowsS) (G : GlbS) (xs : va_W) (a1 : Nat) (ha1 : a1 < 33)  (h0 : f_J5_inflateIfNeededFor_a7421 G a1 = ()) (sz : Nat) : Met l yJ5_inflateIfNeededFor_a7421 (ws_ yJ5_inflateIfNeededFor_a7421 cJ5_inflateIfNeededFor_a7421 2 none) rm_J5_inflateIfNeededFor_a7421 (PCz z D ca (wC ar ag ca P G ++ xs) sz [.ref (ag 5), .ref (z.1 a1)]) (QMw D (wC ar ag ca P G ++ xs) (wC ar ag ca P G ++ xs) sz none) 0 0 (AL (wC ar ag ca P G ++ xs) sz) := by
  refine met_z (by decide +kernel) (Nat.le_of_ble_eq_true rfl) (fun p e s m args below meth c K hr0 hZ X hsz ls hl => ?_)
  have K : MC D ca p s m args meth c cJ5_inflateIfNeededFor_a7421 2 RJ5 := K
  have hx := K.1
  have hb := K.2.1
  have hl : lv_has ls 2 [(0, .ref (ag 5)), (1, .ref (z.1 a1))] := hl
  generalize hQ : MQ below _ args s 0 0 _ = Q
  unfold f_J5_inflateIfNeededFor_a7421 at h0
  suffices Z : ∀ (H : Heap) (locs : List Loc) (X : RW D (wC ar ag ca P G ++ xs) s.heap H locs), W p l e rm_J5_inflateIfNeededFor_a7421 s m args below meth c H locs 0 0 Q (F0 m 0 ls []) from Z _ _ X
  intro H locs X
  refine z_compact K hZ X wC_fstx q324 dJ5_inflateIfNeededFor_a7421_0 ?_
  refine lv_if_eq (tgt := 21) hx hb dJ5_inflateIfNeededFor_a7421_3 (by decide) (fun c1 => False.elim (by revert c1; decide)) (fun c1 => ?_)
  refine lv_aload_n hx hb dJ5_inflateIfNeededFor_a7421_6 rfl (lv_at hl 0 rfl) ?_
  refine g_sbc K X q334 dJ5_inflateIfNeededFor_a7421_7 ?_
  refine lv_aload_n hx hb dJ5_inflateIfNeededFor_a7421_10 rfl (lv_at hl 1 rfl) ?_
  have kx2 := m_J0_coder_7d493 l D ca z (wC ar ag ca P G ++ xs) a1 ha1 0 rfl H.size
  refine z_callV K hZ X wC_fstx wC_fstx kx2 hl.1 0 q1162 q677 q678 q95 q679 hv_J0_coder_7d493 ⟨⟨Nat.le_of_ble_eq_true rfl, Nat.le_of_ble_eq_true rfl⟩, rfl, rfl⟩ (z_recv hZ X wC_fstx ha1) rfl rfl (Nat.le_of_ble_eq_true rfl) dJ5_inflateIfNeededFor_a7421_11 ⟨Nat.le_of_ble_eq_true rfl, Nat.le_of_ble_eq_true rfl⟩ rfl (fun H locs X => ?_)
  refine lv_icmp_eq (tgt := 21) hx hb dJ5_inflateIfNeededFor_a7421_14 (by decide) (fun c3 => ?_) (fun c3 => False.elim (by revert c3; decide))
  subst hQ
  exact w_vret K hr0 X wC_fstx hsz dJ5_inflateIfNeededFor_a7421_21
-- J5_putStringAt_47b60
def f_J5_putStringAt_47b60 (G : GlbS) (a1 : Int32) (a2 : Nat) : Option GlbS :=
  ob (f_J0_getBytes_840e7 G a2 a1 0) fun x2 =>
  lt (x2) fun Gv3 =>
  some Gv3
abbrev rm_J5_putStringAt_47b60 : Room := { frames := 2, cells := 0, slots := 0, locals := 143 }
set_option maxRecDepth 100000 in
set_option maxHeartbeats 4000000 in
theorem m_J5_putStringAt_47b60 (l : Launch) (D : va_G) (ca : Nat → ClassId) (ar : Nat → Nat → Nat) (ag : Nat → Nat) (z : ZG) (P : RowsS) (G : GlbS) (xs : va_W) (a1 : Int32) (a2 : Nat) (ha2 : a2 < 33) (G' : GlbS) (h0 : f_J5_putStringAt_47b60 G a1 a2 = some G') (sz : Nat) : Met l yJ5_putStringAt_47b60 (ws_ yJ5_putStringAt_47b60 cJ5_putStringAt_47b60 3 none) rm_J5_putStringAt_47b60 (PCz z D ca (wC ar ag ca P G ++ xs) sz [.ref (ag 5), .int a1, .ref (z.1 a2)]) (QMw D (wC ar ag ca P G ++ xs) (wC ar ag ca P (G') ++ xs) sz none) 0 0 (AL (wC ar ag ca P G ++ xs) sz) := by
  refine met_z (by decide +kernel) (Nat.le_of_ble_eq_true rfl) (fun p e s m args below meth c K hr0 hZ X hsz ls hl => ?_)
  have K : MC D ca p s m args meth c cJ5_putStringAt_47b60 3 RJ5 := K
  have hx := K.1
  have hb := K.2.1
  have hl : lv_has ls 3 [(0, .ref (ag 5)), (1, .int a1), (2, .ref (z.1 a2))] := hl
  generalize hQ : MQ below _ args s 0 0 _ = Q
  unfold f_J5_putStringAt_47b60 at h0
  suffices Z : ∀ (H : Heap) (locs : List Loc) (X : RW D (wC ar ag ca P G ++ xs) s.heap H locs), W p l e rm_J5_putStringAt_47b60 s m args below meth c H locs 0 0 Q (F0 m 0 ls []) from Z _ _ X
  intro H locs X
  refine lv_aload_n hx hb dJ5_putStringAt_47b60_0 rfl (lv_at hl 0 rfl) ?_
  refine lv_aload_n hx hb dJ5_putStringAt_47b60_1 rfl (lv_at hl 2 rfl) ?_
  have kx1 := m_J5_inflateIfNeededFor_a7421 l D ca ar ag z P G xs a2 ha2  rfl H.size
  refine z_callU K hZ X wC_fstx wC_fstx kx1 hl.1 1 q1158 q2003 q1160 q900002 q93 q1161 rfl hs_J5_inflateIfNeededFor_a7421 ⟨⟨Nat.le_of_ble_eq_true rfl, Nat.le_of_ble_eq_true rfl⟩, rfl, rfl⟩ (z_recvw K X (pl_glb (k := 5) (by decide)) rfl rfl) rfl rfl (Nat.le_of_ble_eq_true rfl) dJ5_putStringAt_47b60_2 ⟨Nat.le_of_ble_eq_true rfl, Nat.le_of_ble_eq_true rfl⟩ rfl (fun H locs X => ?_)
  refine lv_aload_n hx hb dJ5_putStringAt_47b60_5 rfl (lv_at hl 2 rfl) ?_
  refine lv_aload_n hx hb dJ5_putStringAt_47b60_6 rfl (lv_at hl 0 rfl) ?_
  refine g_sbv K X q333 dJ5_putStringAt_47b60_7 ?_
  refine lv_iload_n hx hb dJ5_putStringAt_47b60_10 rfl (lv_at hl 1 rfl) ?_
  refine lv_aload_n hx hb dJ5_putStringAt_47b60_11 rfl (lv_at hl 0 rfl) ?_
  refine g_sbc K X q334 dJ5_putStringAt_47b60_12 ?_
  obtain ⟨x2, ex2, h0⟩ := ob_out h0
  obtain ⟨Gv3, eGv3, h0⟩ := lt_out h0
  have kx2 := m_J0_getBytes_840e7 l D ca ar ag z P G xs a2 ha2 a1 0 x2 ex2 H.size
  rw [← eGv3] at kx2
  refine z_callV K hZ X wC_fstx wC_fstx kx2 hl.1 3 q1182 q1183 q1184 q95 q1185 hv_J0_getBytes_840e7 ⟨⟨Nat.le_of_ble_eq_true rfl, Nat.le_of_ble_eq_true rfl⟩, rfl, rfl⟩ (z_recv hZ X wC_fstx ha2) rfl rfl (Nat.le_of_ble_eq_true rfl) dJ5_putStringAt_47b60_15 ⟨Nat.le_of_ble_eq_true rfl, Nat.le_of_ble_eq_true rfl⟩ rfl (fun H locs X => ?_)
  have h0 := Option.some.inj h0
  subst h0
  subst hQ
  exact w_vret K hr0 X wC_fstx hsz dJ5_putStringAt_47b60_18
-- J5_append_cf1ce
def f_J5_append_cf1ce (G : GlbS) (a1 : Nat) : Option GlbS :=
  lt (f_J0_length_8abf5 a1) fun x1 =>
  ob (f_J5_ensureCapacityInternal_d00df G ((G 5 3) + x1)) fun x2 =>
  lt (x2) fun Gv3 =>
  ob (f_J5_putStringAt_47b60 Gv3 (Gv3 5 3) a1) fun x4 =>
  lt (x4) fun Gv5 =>
  lt (sg Gv5 5 3 ((Gv5 5 3) + x1)) fun Gv6 =>
  some Gv6
abbrev rm_J5_append_cf1ce : Room := { frames := 3, cells := 0, slots := 0, locals := 165 }
set_option maxRecDepth 100000 in
set_option maxHeartbeats 4000000 in
theorem m_J5_append_cf1ce (l : Launch) (D : va_G) (ca : Nat → ClassId) (ar : Nat → Nat → Nat) (ag : Nat → Nat) (z : ZG) (P : RowsS) (G : GlbS) (xs : va_W) (a1 : Nat) (ha1 : a1 < 33) (G' : GlbS) (h0 : f_J5_append_cf1ce G a1 = some G') (sz : Nat) : Met l yJ5_append_cf1ce (ws_ yJ5_append_cf1ce cJ5_append_cf1ce 3 (some (.object "java/lang/AbstractStringBuilder"))) rm_J5_append_cf1ce (PCz z D ca (wC ar ag ca P G ++ xs) sz [.ref (ag 5), .ref (z.1 a1)]) (QMw D (wC ar ag ca P G ++ xs) (wC ar ag ca P (G') ++ xs) sz (some (.ref (ag 5)))) 0 0 (AL (wC ar ag ca P G ++ xs) sz) := by
  refine met_z (by decide +kernel) (Nat.le_of_ble_eq_true rfl) (fun p e s m args below meth c K hr0 hZ X hsz ls hl => ?_)
  have K : MC D ca p s m args meth c cJ5_append_cf1ce 3 RJ5 := K
  have hx := K.1
  have hb := K.2.1
  have hl : lv_has ls 3 [(0, .ref (ag 5)), (1, .ref (z.1 a1))] := hl
  generalize hQ : MQ below _ args s 0 0 _ = Q
  unfold f_J5_append_cf1ce at h0
  suffices Z : ∀ (H : Heap) (locs : List Loc) (X : RW D (wC ar ag ca P G ++ xs) s.heap H locs), W p l e rm_J5_append_cf1ce s m args below meth c H locs 0 0 Q (F0 m 0 ls []) from Z _ _ X
  intro H locs X
  refine lv_aload_n hx hb dJ5_append_cf1ce_0 rfl (lv_at hl 1 rfl) ?_
  refine lv_ifnonnull (tgt := 9) hx hb dJ5_append_cf1ce_1 (by decide) ?_
  refine lv_aload_n hx hb dJ5_append_cf1ce_9 rfl (lv_at hl 1 rfl) ?_
  obtain ⟨x1, ex1, h0⟩ := lt_out h0
  have kx1 := m_J0_length_8abf5 l D ca z (wC ar ag ca P G ++ xs) a1 ha1 x1 ex1.symm H.size
  refine z_callV K hZ X wC_fstx wC_fstx kx1 hl.1 0 q1153 q673 q674 q95 q675 hv_J0_length_8abf5 ⟨⟨Nat.le_of_ble_eq_true rfl, Nat.le_of_ble_eq_true rfl⟩, rfl, rfl⟩ (z_recv hZ X wC_fstx ha1) rfl rfl (Nat.le_of_ble_eq_true rfl) dJ5_append_cf1ce_10 ⟨Nat.le_of_ble_eq_true rfl, Nat.le_of_ble_eq_true rfl⟩ rfl (fun H locs X => ?_)
  refine lv_istore_n (lv' := [(2, .int x1), (0, .ref (ag 5)), (1, .ref (z.1 a1))]) hx hb dJ5_append_cf1ce_13 rfl hl (by decide) rfl (fun ls hl => ?_)
  refine lv_aload_n hx hb dJ5_append_cf1ce_14 rfl (lv_at hl 1 rfl) ?_
  refine lv_aload_n hx hb dJ5_append_cf1ce_15 rfl (lv_at hl 1 rfl) ?_
  refine g_sbn K X q337 dJ5_append_cf1ce_16 ?_
  refine lv_iload_n hx hb dJ5_append_cf1ce_19 rfl (lv_at hl 0 rfl) ?_
  refine lv_iadd hx hb dJ5_append_cf1ce_20 ?_
  obtain ⟨x2, ex2, h0⟩ := ob_out h0
  obtain ⟨Gv3, eGv3, h0⟩ := lt_out h0
  have kx2 := m_J5_ensureCapacityInternal_d00df l D ca ar ag z P G xs ((G 5 3) + x1) x2 ex2 H.size
  rw [← eGv3] at kx2
  refine z_callU K hZ X wC_fstx wC_fstx kx2 hl.1 1 q1078 q1998 q1080 q900000 q93 q1081 rfl hs_J5_ensureCapacityInternal_d00df ⟨⟨Nat.le_of_ble_eq_true rfl, Nat.le_of_ble_eq_true rfl⟩, rfl, rfl⟩ (z_recvw K X (pl_glb (k := 5) (by decide)) rfl rfl) rfl rfl (Nat.le_of_ble_eq_true rfl) dJ5_append_cf1ce_21 ⟨Nat.le_of_ble_eq_true rfl, Nat.le_of_ble_eq_true rfl⟩ rfl (fun H locs X => ?_)
  refine lv_aload_n hx hb dJ5_append_cf1ce_24 rfl (lv_at hl 1 rfl) ?_
  refine lv_aload_n hx hb dJ5_append_cf1ce_25 rfl (lv_at hl 1 rfl) ?_
  refine g_sbn K X q337 dJ5_append_cf1ce_26 ?_
  refine lv_aload_n hx hb dJ5_append_cf1ce_29 rfl (lv_at hl 2 rfl) ?_
  obtain ⟨x4, ex4, h0⟩ := ob_out h0
  obtain ⟨Gv5, eGv5, h0⟩ := lt_out h0
  have kx4 := m_J5_putStringAt_47b60 l D ca ar ag z P Gv3 xs (Gv3 5 3) a1 ha1 x4 ex4 H.size
  rw [← eGv5] at kx4
  refine z_callU K hZ X wC_fstx wC_fstx kx4 hl.1 2 q1154 q2002 q1156 q900001 q93 q1157 rfl hs_J5_putStringAt_47b60 ⟨⟨Nat.le_of_ble_eq_true rfl, Nat.le_of_ble_eq_true rfl⟩, rfl, rfl⟩ (z_recvw K X (pl_glb (k := 5) (by decide)) rfl rfl) rfl rfl (Nat.le_of_ble_eq_true rfl) dJ5_append_cf1ce_30 ⟨Nat.le_of_ble_eq_true rfl, Nat.le_of_ble_eq_true rfl⟩ rfl (fun H locs X => ?_)
  refine lv_aload_n hx hb dJ5_append_cf1ce_33 rfl (lv_at hl 1 rfl) ?_
  refine lv_dup hx hb dJ5_append_cf1ce_34 rfl ?_
  refine g_sbn K X q337 dJ5_append_cf1ce_35 ?_
  refine lv_iload_n hx hb dJ5_append_cf1ce_38 rfl (lv_at hl 0 rfl) ?_
  refine lv_iadd hx hb dJ5_append_cf1ce_39 ?_
  obtain ⟨Gv6, eGv6, h0⟩ := lt_out h0
  refine p_sbn K X eGv6 q337 dJ5_append_cf1ce_40 (fun H locs X => ?_)
  refine lv_aload_n hx hb dJ5_append_cf1ce_43 rfl (lv_at hl 1 rfl) ?_
  have h0 := Option.some.inj h0
  subst h0
  subst hQ
  exact w_aret K hr0 (Or.inl ⟨_, rfl⟩) X wC_fstx hsz dJ5_append_cf1ce_44
-- J4_append_15ec4
def f_J4_append_15ec4 (G : GlbS) (a1 : Nat) : Option GlbS :=
  ob (f_J5_append_cf1ce G a1) fun x1 =>
  lt (x1) fun Gv2 =>
  some Gv2
abbrev rm_J4_append_15ec4 : Room := { frames := 4, cells := 0, slots := 0, locals := 187 }
set_option maxRecDepth 100000 in
set_option maxHeartbeats 4000000 in
theorem m_J4_append_15ec4 (l : Launch) (D : va_G) (ca : Nat → ClassId) (ar : Nat → Nat → Nat) (ag : Nat → Nat) (z : ZG) (P : RowsS) (G : GlbS) (xs : va_W) (a1 : Nat) (ha1 : a1 < 33) (G' : GlbS) (h0 : f_J4_append_15ec4 G a1 = some G') (sz : Nat) : Met l yJ4_append_15ec4 (ws_ yJ4_append_15ec4 cJ4_append_15ec4 2 (some (.object "java/lang/StringBuilder"))) rm_J4_append_15ec4 (PCz z D ca (wC ar ag ca P G ++ xs) sz [.ref (ag 5), .ref (z.1 a1)]) (QMw D (wC ar ag ca P G ++ xs) (wC ar ag ca P (G') ++ xs) sz (some (.ref (ag 5)))) 0 0 (AL (wC ar ag ca P G ++ xs) sz) := by
  refine met_z (by decide +kernel) (Nat.le_of_ble_eq_true rfl) (fun p e s m args below meth c K hr0 hZ X hsz ls hl => ?_)
  have K : MC D ca p s m args meth c cJ4_append_15ec4 2 RJ4 := K
  have hx := K.1
  have hb := K.2.1
  have hl : lv_has ls 2 [(0, .ref (ag 5)), (1, .ref (z.1 a1))] := hl
  generalize hQ : MQ below _ args s 0 0 _ = Q
  unfold f_J4_append_15ec4 at h0
  suffices Z : ∀ (H : Heap) (locs : List Loc) (X : RW D (wC ar ag ca P G ++ xs) s.heap H locs), W p l e rm_J4_append_15ec4 s m args below meth c H locs 0 0 Q (F0 m 0 ls []) from Z _ _ X
  intro H locs X
  refine lv_aload_n hx hb dJ4_append_15ec4_0 rfl (lv_at hl 0 rfl) ?_
  refine lv_aload_n hx hb dJ4_append_15ec4_1 rfl (lv_at hl 1 rfl) ?_
  obtain ⟨x1, ex1, h0⟩ := ob_out h0
  obtain ⟨Gv2, eGv2, h0⟩ := lt_out h0
  have kx1 := m_J5_append_cf1ce l D ca ar ag z P G xs a1 ha1 x1 ex1 H.size
  rw [← eGv2] at kx1
  refine z_callSU K hZ X wC_fstx wC_fstx kx1 hl.1 1 q1131 q2000 q346 q1132 q93 q1133 (by decide +kernel) ⟨⟨Nat.le_of_ble_eq_true rfl, Nat.le_of_ble_eq_true rfl⟩, rfl, rfl⟩ (z_at (ci := 1) K rfl rfl) (z_recvw K X (pl_glb (k := 5) (by decide)) rfl rfl) rfl rfl (Nat.le_of_ble_eq_true rfl) dJ4_append_15ec4_2 ⟨Nat.le_of_ble_eq_true rfl, Nat.le_of_ble_eq_true rfl⟩ rfl (fun H locs X => ?_)
  refine lv_pop hx hb dJ4_append_15ec4_5 rfl ?_
  refine lv_aload_n hx hb dJ4_append_15ec4_6 rfl (lv_at hl 0 rfl) ?_
  have h0 := Option.some.inj h0
  subst h0
  subst hQ
  exact w_aret K hr0 (Or.inl ⟨_, rfl⟩) X wC_fstx hsz dJ4_append_15ec4_7
-- J5_isLatin1_aae02
def f_J5_isLatin1_aae02 (G : GlbS) : Bool :=
  true
abbrev rm_J5_isLatin1_aae02 : Room := { frames := 0, cells := 0, slots := 0, locals := 0 }
set_option maxRecDepth 100000 in
set_option maxHeartbeats 4000000 in
theorem m_J5_isLatin1_aae02 (l : Launch) (D : va_G) (ca : Nat → ClassId) (ar : Nat → Nat → Nat) (ag : Nat → Nat) (z : ZG) (P : RowsS) (G : GlbS) (xs : va_W) (res : Bool) (h0 : f_J5_isLatin1_aae02 G = res) (sz : Nat) : Met l yJ5_isLatin1_aae02 (ws_ yJ5_isLatin1_aae02 cJ5_isLatin1_aae02 1 (some .boolean)) rm_J5_isLatin1_aae02 (PCz z D ca (wC ar ag ca P G ++ xs) sz [.ref (ag 5)]) (QMw D (wC ar ag ca P G ++ xs) (wC ar ag ca P G ++ xs) sz (some (.int (b2i res)))) 0 0 (AL (wC ar ag ca P G ++ xs) sz) := by
  refine met_z (by decide +kernel) (Nat.le_of_ble_eq_true rfl) (fun p e s m args below meth c K hr0 hZ X hsz ls hl => ?_)
  have K : MC D ca p s m args meth c cJ5_isLatin1_aae02 1 RJ5 := K
  have hx := K.1
  have hb := K.2.1
  have hl : lv_has ls 1 [(0, .ref (ag 5))] := hl
  generalize hQ : MQ below _ args s 0 0 _ = Q
  unfold f_J5_isLatin1_aae02 at h0
  suffices Z : ∀ (H : Heap) (locs : List Loc) (X : RW D (wC ar ag ca P G ++ xs) s.heap H locs), W p l e rm_J5_isLatin1_aae02 s m args below meth c H locs 0 0 Q (F0 m 0 ls []) from Z _ _ X
  intro H locs X
  refine z_compact K hZ X wC_fstx q324 dJ5_isLatin1_aae02_0 ?_
  refine lv_if_eq (tgt := 17) hx hb dJ5_isLatin1_aae02_3 (by decide) (fun c1 => False.elim (by revert c1; decide)) (fun c1 => ?_)
  refine lv_aload_n hx hb dJ5_isLatin1_aae02_6 rfl (lv_at hl 0 rfl) ?_
  refine g_sbc K X q334 dJ5_isLatin1_aae02_7 ?_
  refine lv_if_ne (tgt := 17) hx hb dJ5_isLatin1_aae02_10 (by decide) (fun c2 => False.elim (by revert c2; decide)) (fun c2 => ?_)
  refine lv_iconst (v := 1) hx hb dJ5_isLatin1_aae02_13 (by decide) ?_
  refine lv_goto (tgt := 18) hx hb dJ5_isLatin1_aae02_14 (by decide) ?_
  subst h0
  subst hQ
  refine w_int (y := b2i true) (by decide) ?_
  exact w_zret K hr0 X wC_fstx hsz (b2i_nar _) dJ5_isLatin1_aae02_18
-- J5_append_3fe6f
def b_J5_append_3fe6f_45  (G_45 : GlbS) : Option GlbS :=
  none
def f_J5_append_3fe6f (G : GlbS) (a1 : Int32) : Option GlbS :=
  ob (f_J5_ensureCapacityInternal_d00df G ((G 5 3) + 1)) fun x1 =>
  lt (x1) fun Gv2 =>
  lt (f_J1_canEncode_fc78d a1) fun x5 =>
  if x5 = true then
    lt (sg Gv2 5 3 ((Gv2 5 3) + 1)) fun Gv9 =>
    if 0 ≤ (Gv2 5 3).toInt ∧ (Gv2 5 3).toInt < 16 then
      lt (sg Gv9 6 (Gv2 5 3).toNatClampNeg a1.toInt8.toInt32) fun Gv11 =>
      some Gv11
    else none
  else
    b_J5_append_3fe6f_45 Gv2
abbrev rm_J5_append_3fe6f : Room := { frames := 1, cells := 0, slots := 0, locals := 22 }
set_option maxRecDepth 100000 in
set_option maxHeartbeats 4000000 in
theorem m_J5_append_3fe6f (l : Launch) (D : va_G) (ca : Nat → ClassId) (ar : Nat → Nat → Nat) (ag : Nat → Nat) (z : ZG) (P : RowsS) (G : GlbS) (xs : va_W) (a1 : Int32) (G' : GlbS) (h0 : f_J5_append_3fe6f G a1 = some G') (sz : Nat) : Met l yJ5_append_3fe6f (ws_ yJ5_append_3fe6f cJ5_append_3fe6f 2 (some (.object "java/lang/AbstractStringBuilder"))) rm_J5_append_3fe6f (PCz z D ca (wC ar ag ca P G ++ xs) sz [.ref (ag 5), .int a1]) (QMw D (wC ar ag ca P G ++ xs) (wC ar ag ca P (G') ++ xs) sz (some (.ref (ag 5)))) 0 0 (AL (wC ar ag ca P G ++ xs) sz) := by
  refine met_z (by decide +kernel) (Nat.le_of_ble_eq_true rfl) (fun p e s m args below meth c K hr0 hZ X hsz ls hl => ?_)
  have K : MC D ca p s m args meth c cJ5_append_3fe6f 2 RJ5 := K
  have hx := K.1
  have hb := K.2.1
  have hl : lv_has ls 2 [(0, .ref (ag 5)), (1, .int a1)] := hl
  generalize hQ : MQ below _ args s 0 0 _ = Q
  unfold f_J5_append_3fe6f at h0
  suffices Z : ∀ (H : Heap) (locs : List Loc) (X : RW D (wC ar ag ca P G ++ xs) s.heap H locs), W p l e rm_J5_append_3fe6f s m args below meth c H locs 0 0 Q (F0 m 0 ls []) from Z _ _ X
  intro H locs X
  have J45 : ∀ (G_45 : GlbS) (H : Heap) (locs : List Loc) (X : RW D (wC ar ag ca P G_45 ++ xs) s.heap H locs) (ls : Array Slot) (hl : lv_has ls 2 [(0, .ref (ag 5)), (1, .int a1)]) (h0 : b_J5_append_3fe6f_45 G_45 = some G'), W p l e rm_J5_append_3fe6f s m args below meth c H locs 0 0 Q (F0 m 45 ls []) := by
    intro G_45 H locs X ls hl h0
    unfold b_J5_append_3fe6f_45 at h0
    refine lv_aload_n hx hb dJ5_append_3fe6f_45 rfl (lv_at hl 0 rfl) ?_
    have kx7 := m_J5_isLatin1_aae02 l D ca ar ag z P G_45 xs true rfl H.size
    refine z_callU K hZ X wC_fstx wC_fstx kx7 hl.1 0 q1109 q1111 q1110 q1112 q93 q1113 rfl hs_J5_isLatin1_aae02 ⟨⟨Nat.le_of_ble_eq_true rfl, Nat.le_of_ble_eq_true rfl⟩, rfl, rfl⟩ (z_recvw K X (pl_glb (k := 5) (by decide)) rfl rfl) rfl rfl (Nat.le_of_ble_eq_true rfl) dJ5_append_3fe6f_46 ⟨Nat.le_of_ble_eq_true rfl, Nat.le_of_ble_eq_true rfl⟩ rfl (fun H locs X => ?_)
    refine w_zeq (tgt := 56) K dJ5_append_3fe6f_49 (by decide) (fun c8 => False.elim (by revert c8; decide)) (fun c8 => ?_)
    refine lv_aload_n hx hb dJ5_append_3fe6f_52 rfl (lv_at hl 0 rfl) ?_
    cases h0
  refine lv_aload_n hx hb dJ5_append_3fe6f_0 rfl (lv_at hl 0 rfl) ?_
  refine lv_aload_n hx hb dJ5_append_3fe6f_1 rfl (lv_at hl 0 rfl) ?_
  refine g_sbn K X q337 dJ5_append_3fe6f_2 ?_
  refine lv_iconst (v := 1) hx hb dJ5_append_3fe6f_5 (by decide) ?_
  refine lv_iadd hx hb dJ5_append_3fe6f_6 ?_
  obtain ⟨x1, ex1, h0⟩ := ob_out h0
  obtain ⟨Gv2, eGv2, h0⟩ := lt_out h0
  have kx1 := m_J5_ensureCapacityInternal_d00df l D ca ar ag z P G xs ((G 5 3) + 1) x1 ex1 H.size
  rw [← eGv2] at kx1
  refine z_callU K hZ X wC_fstx wC_fstx kx1 hl.1 1 q1078 q1998 q1080 q900000 q93 q1081 rfl hs_J5_ensureCapacityInternal_d00df ⟨⟨Nat.le_of_ble_eq_true rfl, Nat.le_of_ble_eq_true rfl⟩, rfl, rfl⟩ (z_recvw K X (pl_glb (k := 5) (by decide)) rfl rfl) rfl rfl (Nat.le_of_ble_eq_true rfl) dJ5_append_3fe6f_7 ⟨Nat.le_of_ble_eq_true rfl, Nat.le_of_ble_eq_true rfl⟩ rfl (fun H locs X => ?_)
  refine lv_aload_n hx hb dJ5_append_3fe6f_10 rfl (lv_at hl 0 rfl) ?_
  have kx3 := m_J5_isLatin1_aae02 l D ca ar ag z P Gv2 xs true rfl H.size
  refine z_callU K hZ X wC_fstx wC_fstx kx3 hl.1 0 q1109 q1111 q1110 q1112 q93 q1113 rfl hs_J5_isLatin1_aae02 ⟨⟨Nat.le_of_ble_eq_true rfl, Nat.le_of_ble_eq_true rfl⟩, rfl, rfl⟩ (z_recvw K X (pl_glb (k := 5) (by decide)) rfl rfl) rfl rfl (Nat.le_of_ble_eq_true rfl) dJ5_append_3fe6f_11 ⟨Nat.le_of_ble_eq_true rfl, Nat.le_of_ble_eq_true rfl⟩ rfl (fun H locs X => ?_)
  refine w_zeq (tgt := 45) K dJ5_append_3fe6f_14 (by decide) (fun c4 => False.elim (by revert c4; decide)) (fun c4 => ?_)
  refine lv_iload_n hx hb dJ5_append_3fe6f_17 rfl (lv_at hl 1 rfl) ?_
  obtain ⟨x5, ex5, h0⟩ := lt_out h0
  have kx5 := m_J1_canEncode_fc78d l D ca (wC ar ag ca P Gv2 ++ xs) a1 x5 ex5.symm H.size
  refine w_callS0 K X wC_fstx kx5 hl.1 1 q1279 q1280 q104 q1281 hs_J1_canEncode_fc78d ⟨⟨Nat.le_of_ble_eq_true rfl, Nat.le_of_ble_eq_true rfl⟩, rfl, rfl⟩ rfl rfl (Nat.le_of_ble_eq_true rfl) dJ5_append_3fe6f_18 ⟨Nat.le_of_ble_eq_true rfl, Nat.le_of_ble_eq_true rfl⟩ rfl (fun H locs X => ?_)
  refine w_zeq (tgt := 45) K dJ5_append_3fe6f_21 (by decide) (fun c6 => ?_) (fun c6 => ?_)
  · have h0 := if_f c6 h0
    exact J45 Gv2 H locs X ls (lv_sub hl [0, 1] rfl) h0
  · have h0 := if_t c6 h0
    refine lv_aload_n hx hb dJ5_append_3fe6f_24 rfl (lv_at hl 0 rfl) ?_
    refine g_sbv K X q333 dJ5_append_3fe6f_25 ?_
    refine lv_aload_n hx hb dJ5_append_3fe6f_28 rfl (lv_at hl 0 rfl) ?_
    refine lv_dup hx hb dJ5_append_3fe6f_29 rfl ?_
    refine g_sbn K X q337 dJ5_append_3fe6f_30 ?_
    refine lv_dup_x1 hx hb dJ5_append_3fe6f_33 rfl rfl ?_
    refine lv_iconst (v := 1) hx hb dJ5_append_3fe6f_34 (by decide) ?_
    refine lv_iadd hx hb dJ5_append_3fe6f_35 ?_
    obtain ⟨Gv9, eGv9, h0⟩ := lt_out h0
    refine p_sbn K X eGv9 q337 dJ5_append_3fe6f_36 (fun H locs X => ?_)
    refine lv_iload_n hx hb dJ5_append_3fe6f_39 rfl (lv_at hl 1 rfl) ?_
    refine lv_i2b hx hb dJ5_append_3fe6f_40 rfl ?_
    obtain ⟨c10, h0⟩ := if_o h0
    obtain ⟨Gv11, eGv11, h0⟩ := lt_out h0
    refine s_sbb K X (inb_vp c10) (b8_8 _) eGv11 dJ5_append_3fe6f_41 (fun H locs X => ?_)
    refine lv_goto (tgt := 75) hx hb dJ5_append_3fe6f_42 (by decide) ?_
    refine lv_aload_n hx hb dJ5_append_3fe6f_75 rfl (lv_at hl 0 rfl) ?_
    have h0 := Option.some.inj h0
    subst h0
    subst hQ
    exact w_aret K hr0 (Or.inl ⟨_, rfl⟩) X wC_fstx hsz dJ5_append_3fe6f_76
-- J4_append_cf468
def f_J4_append_cf468 (G : GlbS) (a1 : Int32) : Option GlbS :=
  ob (f_J5_append_3fe6f G a1) fun x1 =>
  lt (x1) fun Gv2 =>
  some Gv2
abbrev rm_J4_append_cf468 : Room := { frames := 2, cells := 0, slots := 0, locals := 43 }
set_option maxRecDepth 100000 in
set_option maxHeartbeats 4000000 in
theorem m_J4_append_cf468 (l : Launch) (D : va_G) (ca : Nat → ClassId) (ar : Nat → Nat → Nat) (ag : Nat → Nat) (z : ZG) (P : RowsS) (G : GlbS) (xs : va_W) (a1 : Int32) (G' : GlbS) (h0 : f_J4_append_cf468 G a1 = some G') (sz : Nat) : Met l yJ4_append_cf468 (ws_ yJ4_append_cf468 cJ4_append_cf468 2 (some (.object "java/lang/StringBuilder"))) rm_J4_append_cf468 (PCz z D ca (wC ar ag ca P G ++ xs) sz [.ref (ag 5), .int a1]) (QMw D (wC ar ag ca P G ++ xs) (wC ar ag ca P (G') ++ xs) sz (some (.ref (ag 5)))) 0 0 (AL (wC ar ag ca P G ++ xs) sz) := by
  refine met_z (by decide +kernel) (Nat.le_of_ble_eq_true rfl) (fun p e s m args below meth c K hr0 hZ X hsz ls hl => ?_)
  have K : MC D ca p s m args meth c cJ4_append_cf468 2 RJ4 := K
  have hx := K.1
  have hb := K.2.1
  have hl : lv_has ls 2 [(0, .ref (ag 5)), (1, .int a1)] := hl
  generalize hQ : MQ below _ args s 0 0 _ = Q
  unfold f_J4_append_cf468 at h0
  suffices Z : ∀ (H : Heap) (locs : List Loc) (X : RW D (wC ar ag ca P G ++ xs) s.heap H locs), W p l e rm_J4_append_cf468 s m args below meth c H locs 0 0 Q (F0 m 0 ls []) from Z _ _ X
  intro H locs X
  refine lv_aload_n hx hb dJ4_append_cf468_0 rfl (lv_at hl 0 rfl) ?_
  refine lv_iload_n hx hb dJ4_append_cf468_1 rfl (lv_at hl 1 rfl) ?_
  obtain ⟨x1, ex1, h0⟩ := ob_out h0
  obtain ⟨Gv2, eGv2, h0⟩ := lt_out h0
  have kx1 := m_J5_append_3fe6f l D ca ar ag z P G xs a1 x1 ex1 H.size
  rw [← eGv2] at kx1
  refine z_callSU K hZ X wC_fstx wC_fstx kx1 hl.1 1 q1276 q2007 q346 q1277 q93 q1278 (by decide +kernel) ⟨⟨Nat.le_of_ble_eq_true rfl, Nat.le_of_ble_eq_true rfl⟩, rfl, rfl⟩ (z_at (ci := 1) K rfl rfl) (z_recvw K X (pl_glb (k := 5) (by decide)) rfl rfl) rfl rfl (Nat.le_of_ble_eq_true rfl) dJ4_append_cf468_2 ⟨Nat.le_of_ble_eq_true rfl, Nat.le_of_ble_eq_true rfl⟩ rfl (fun H locs X => ?_)
  refine lv_pop hx hb dJ4_append_cf468_5 rfl ?_
  refine lv_aload_n hx hb dJ4_append_cf468_6 rfl (lv_at hl 0 rfl) ?_
  have h0 := Option.some.inj h0
  subst h0
  subst hQ
  exact w_aret K hr0 (Or.inl ⟨_, rfl⟩) X wC_fstx hsz dJ4_append_cf468_7
-- J5_append_c97b9
def b_J5_append_c97b9_48  (y48_l3 : Int32) (G_48 : GlbS) : Option GlbS :=
  lt (sg G_48 5 3 y48_l3) fun Gv10 =>
  some Gv10
def f_J5_append_c97b9 (n : Nat) (G : GlbS) (a1 : Int32) : Option GlbS :=
  lt (G 5 3) fun x1 =>
  ob (f_J6_stringSize_0f7a4 n a1) fun x2 =>
  lt (x1 + x2) fun x3 =>
  ob (f_J5_ensureCapacityInternal_d00df G x3) fun x4 =>
  lt (x4) fun Gv5 =>
  ob (f_J6_getChars_ba4f3 n Gv5 a1 x3) fun x8 =>
  lt (x8.2) fun Gv9 =>
  b_J5_append_c97b9_48 x3 Gv9
abbrev rm_J5_append_c97b9 : Room := { frames := 1, cells := 0, slots := 0, locals := 26 }
set_option maxRecDepth 100000 in
set_option maxHeartbeats 4000000 in
theorem m_J5_append_c97b9 (l : Launch) (D : va_G) (ca : Nat → ClassId) (ar : Nat → Nat → Nat) (ag : Nat → Nat) (z : ZG) (n : Nat) (P : RowsS) (G : GlbS) (xs : va_W) (a1 : Int32) (G' : GlbS) (h0 : f_J5_append_c97b9 n G a1 = some G') (sz : Nat) : Met l yJ5_append_c97b9 (ws_ yJ5_append_c97b9 cJ5_append_c97b9 4 (some (.object "java/lang/AbstractStringBuilder"))) rm_J5_append_c97b9 (PCz z D ca (wC ar ag ca P G ++ xs) sz [.ref (ag 5), .int a1]) (QMw D (wC ar ag ca P G ++ xs) (wC ar ag ca P (G') ++ xs) sz (some (.ref (ag 5)))) 0 0 (AL (wC ar ag ca P G ++ xs) sz) := by
  refine met_z (by decide +kernel) (Nat.le_of_ble_eq_true rfl) (fun p e s m args below meth c K hr0 hZ X hsz ls hl => ?_)
  have K : MC D ca p s m args meth c cJ5_append_c97b9 4 RJ5 := K
  have hx := K.1
  have hb := K.2.1
  have hl : lv_has ls 4 [(0, .ref (ag 5)), (1, .int a1)] := hl
  generalize hQ : MQ below _ args s 0 0 _ = Q
  unfold f_J5_append_c97b9 at h0
  suffices Z : ∀ (H : Heap) (locs : List Loc) (X : RW D (wC ar ag ca P G ++ xs) s.heap H locs), W p l e rm_J5_append_c97b9 s m args below meth c H locs 0 0 Q (F0 m 0 ls []) from Z _ _ X
  intro H locs X
  have J48 : ∀ (y48_l3 : Int32) (G_48 : GlbS) (H : Heap) (locs : List Loc) (X : RW D (wC ar ag ca P G_48 ++ xs) s.heap H locs) (ls : Array Slot) (hl : lv_has ls 4 [(0, .ref (ag 5)), (3, .int y48_l3)]) (h0 : b_J5_append_c97b9_48 y48_l3 G_48 = some G'), W p l e rm_J5_append_c97b9 s m args below meth c H locs 0 0 Q (F0 m 48 ls []) := by
    intro y48_l3 G_48 H locs X ls hl h0
    unfold b_J5_append_c97b9_48 at h0
    refine lv_aload_n hx hb dJ5_append_c97b9_48 rfl (lv_at hl 0 rfl) ?_
    refine lv_iload_n hx hb dJ5_append_c97b9_49 rfl (lv_at hl 1 rfl) ?_
    obtain ⟨Gv10, eGv10, h0⟩ := lt_out h0
    refine p_sbn K X eGv10 q337 dJ5_append_c97b9_50 (fun H locs X => ?_)
    refine lv_aload_n hx hb dJ5_append_c97b9_53 rfl (lv_at hl 0 rfl) ?_
    have h0 := Option.some.inj h0
    subst h0
    subst hQ
    exact w_aret K hr0 (Or.inl ⟨_, rfl⟩) X wC_fstx hsz dJ5_append_c97b9_54
  refine lv_aload_n hx hb dJ5_append_c97b9_0 rfl (lv_at hl 0 rfl) ?_
  refine g_sbn K X q337 dJ5_append_c97b9_1 ?_
  obtain ⟨x1, ex1, h0⟩ := lt_out h0
  refine w_int ex1 ?_
  refine lv_istore_n (lv' := [(2, .int x1), (0, .ref (ag 5)), (1, .int a1)]) hx hb dJ5_append_c97b9_4 rfl hl (by decide) rfl (fun ls hl => ?_)
  refine lv_iload_n hx hb dJ5_append_c97b9_5 rfl (lv_at hl 0 rfl) ?_
  refine lv_iload_n hx hb dJ5_append_c97b9_6 rfl (lv_at hl 2 rfl) ?_
  obtain ⟨x2, ex2, h0⟩ := ob_out h0
  have kx2 := m_J6_stringSize_0f7a4 l D ca n (wC ar ag ca P G ++ xs) a1 x2 ex2 H.size
  refine w_callS0 K X wC_fstx kx2 hl.1 1 q1195 q1196 q111 q1197 hs_J6_stringSize_0f7a4 ⟨⟨Nat.le_of_ble_eq_true rfl, Nat.le_of_ble_eq_true rfl⟩, rfl, rfl⟩ rfl rfl (Nat.le_of_ble_eq_true rfl) dJ5_append_c97b9_7 ⟨Nat.le_of_ble_eq_true rfl, Nat.le_of_ble_eq_true rfl⟩ rfl (fun H locs X => ?_)
  refine lv_iadd hx hb dJ5_append_c97b9_10 ?_
  obtain ⟨x3, ex3, h0⟩ := lt_out h0
  refine w_int ex3 ?_
  refine lv_istore_n (lv' := [(3, .int x3), (2, .int x1), (0, .ref (ag 5)), (1, .int a1)]) hx hb dJ5_append_c97b9_11 rfl hl (by decide) rfl (fun ls hl => ?_)
  refine lv_aload_n hx hb dJ5_append_c97b9_12 rfl (lv_at hl 2 rfl) ?_
  refine lv_iload_n hx hb dJ5_append_c97b9_13 rfl (lv_at hl 0 rfl) ?_
  obtain ⟨x4, ex4, h0⟩ := ob_out h0
  obtain ⟨Gv5, eGv5, h0⟩ := lt_out h0
  have kx4 := m_J5_ensureCapacityInternal_d00df l D ca ar ag z P G xs x3 x4 ex4 H.size
  rw [← eGv5] at kx4
  refine z_callU K hZ X wC_fstx wC_fstx kx4 hl.1 1 q1078 q1998 q1080 q900000 q93 q1081 rfl hs_J5_ensureCapacityInternal_d00df ⟨⟨Nat.le_of_ble_eq_true rfl, Nat.le_of_ble_eq_true rfl⟩, rfl, rfl⟩ (z_recvw K X (pl_glb (k := 5) (by decide)) rfl rfl) rfl rfl (Nat.le_of_ble_eq_true rfl) dJ5_append_c97b9_14 ⟨Nat.le_of_ble_eq_true rfl, Nat.le_of_ble_eq_true rfl⟩ rfl (fun H locs X => ?_)
  refine lv_aload_n hx hb dJ5_append_c97b9_17 rfl (lv_at hl 2 rfl) ?_
  have kx6 := m_J5_isLatin1_aae02 l D ca ar ag z P Gv5 xs true rfl H.size
  refine z_callU K hZ X wC_fstx wC_fstx kx6 hl.1 0 q1109 q1111 q1110 q1112 q93 q1113 rfl hs_J5_isLatin1_aae02 ⟨⟨Nat.le_of_ble_eq_true rfl, Nat.le_of_ble_eq_true rfl⟩, rfl, rfl⟩ (z_recvw K X (pl_glb (k := 5) (by decide)) rfl rfl) rfl rfl (Nat.le_of_ble_eq_true rfl) dJ5_append_c97b9_18 ⟨Nat.le_of_ble_eq_true rfl, Nat.le_of_ble_eq_true rfl⟩ rfl (fun H locs X => ?_)
  refine w_zeq (tgt := 37) K dJ5_append_c97b9_21 (by decide) (fun c7 => False.elim (by revert c7; decide)) (fun c7 => ?_)
  refine lv_iload_n hx hb dJ5_append_c97b9_24 rfl (lv_at hl 3 rfl) ?_
  refine lv_iload_n hx hb dJ5_append_c97b9_25 rfl (lv_at hl 0 rfl) ?_
  refine lv_aload_n hx hb dJ5_append_c97b9_26 rfl (lv_at hl 2 rfl) ?_
  refine g_sbv K X q333 dJ5_append_c97b9_27 ?_
  obtain ⟨x8, ex8, h0⟩ := ob_out h0
  obtain ⟨Gv9, eGv9, h0⟩ := lt_out h0
  have kx8 := m_J6_getChars_ba4f3 l D ca ar ag z n P Gv5 xs a1 x3 x8.1 x8.2 ex8 H.size
  rw [← eGv9] at kx8
  refine z_callS K hZ X wC_fstx wC_fstx kx8 hl.1 3 q1198 q1199 q111 q1200 hs_J6_getChars_ba4f3 ⟨⟨Nat.le_of_ble_eq_true rfl, Nat.le_of_ble_eq_true rfl⟩, rfl, rfl⟩ rfl rfl (Nat.le_of_ble_eq_true rfl) dJ5_append_c97b9_30 ⟨Nat.le_of_ble_eq_true rfl, Nat.le_of_ble_eq_true rfl⟩ rfl (fun H locs X => ?_)
  refine lv_pop hx hb dJ5_append_c97b9_33 rfl ?_
  refine lv_goto (tgt := 48) hx hb dJ5_append_c97b9_34 (by decide) ?_
  exact J48 x3 Gv9 H locs X ls (lv_sub hl [2, 0] rfl) h0
-- J4_append_bf812
def f_J4_append_bf812 (n : Nat) (G : GlbS) (a1 : Int32) : Option GlbS :=
  ob (f_J5_append_c97b9 n G a1) fun x1 =>
  lt (x1) fun Gv2 =>
  some Gv2
abbrev rm_J4_append_bf812 : Room := { frames := 2, cells := 0, slots := 0, locals := 49 }
set_option maxRecDepth 100000 in
set_option maxHeartbeats 4000000 in
theorem m_J4_append_bf812 (l : Launch) (D : va_G) (ca : Nat → ClassId) (ar : Nat → Nat → Nat) (ag : Nat → Nat) (z : ZG) (n : Nat) (P : RowsS) (G : GlbS) (xs : va_W) (a1 : Int32) (G' : GlbS) (h0 : f_J4_append_bf812 n G a1 = some G') (sz : Nat) : Met l yJ4_append_bf812 (ws_ yJ4_append_bf812 cJ4_append_bf812 2 (some (.object "java/lang/StringBuilder"))) rm_J4_append_bf812 (PCz z D ca (wC ar ag ca P G ++ xs) sz [.ref (ag 5), .int a1]) (QMw D (wC ar ag ca P G ++ xs) (wC ar ag ca P (G') ++ xs) sz (some (.ref (ag 5)))) 0 0 (AL (wC ar ag ca P G ++ xs) sz) := by
  refine met_z (by decide +kernel) (Nat.le_of_ble_eq_true rfl) (fun p e s m args below meth c K hr0 hZ X hsz ls hl => ?_)
  have K : MC D ca p s m args meth c cJ4_append_bf812 2 RJ4 := K
  have hx := K.1
  have hb := K.2.1
  have hl : lv_has ls 2 [(0, .ref (ag 5)), (1, .int a1)] := hl
  generalize hQ : MQ below _ args s 0 0 _ = Q
  unfold f_J4_append_bf812 at h0
  suffices Z : ∀ (H : Heap) (locs : List Loc) (X : RW D (wC ar ag ca P G ++ xs) s.heap H locs), W p l e rm_J4_append_bf812 s m args below meth c H locs 0 0 Q (F0 m 0 ls []) from Z _ _ X
  intro H locs X
  refine lv_aload_n hx hb dJ4_append_bf812_0 rfl (lv_at hl 0 rfl) ?_
  refine lv_iload_n hx hb dJ4_append_bf812_1 rfl (lv_at hl 1 rfl) ?_
  obtain ⟨x1, ex1, h0⟩ := ob_out h0
  obtain ⟨Gv2, eGv2, h0⟩ := lt_out h0
  have kx1 := m_J5_append_c97b9 l D ca ar ag z n P G xs a1 x1 ex1 H.size
  rw [← eGv2] at kx1
  refine z_callSU K hZ X wC_fstx wC_fstx kx1 hl.1 1 q1192 q2005 q346 q1193 q93 q1194 (by decide +kernel) ⟨⟨Nat.le_of_ble_eq_true rfl, Nat.le_of_ble_eq_true rfl⟩, rfl, rfl⟩ (z_at (ci := 1) K rfl rfl) (z_recvw K X (pl_glb (k := 5) (by decide)) rfl rfl) rfl rfl (Nat.le_of_ble_eq_true rfl) dJ4_append_bf812_2 ⟨Nat.le_of_ble_eq_true rfl, Nat.le_of_ble_eq_true rfl⟩ rfl (fun H locs X => ?_)
  refine lv_pop hx hb dJ4_append_bf812_5 rfl ?_
  refine lv_aload_n hx hb dJ4_append_bf812_6 rfl (lv_at hl 0 rfl) ?_
  have h0 := Option.some.inj h0
  subst h0
  subst hQ
  exact w_aret K hr0 (Or.inl ⟨_, rfl⟩) X wC_fstx hsz dJ4_append_bf812_7
-- J5_charAt_5068e
def f_J5_charAt_5068e (G : GlbS) (a1 : Int32) : Option Int32 :=
  lt (jmin (G 5 3) 16) fun x1 =>
  ob (f_J0_checkIndex_df160 a1 x1) fun x2 =>
  if 0 ≤ a1.toInt ∧ a1.toInt < 16 then
    some ((((G 6 a1.toNatClampNeg) &&& 255).toUInt32 % 65536).toInt32)
  else none
abbrev rm_J5_charAt_5068e : Room := { frames := 2, cells := 0, slots := 0, locals := 43 }
set_option maxRecDepth 100000 in
set_option maxHeartbeats 4000000 in
theorem m_J5_charAt_5068e (l : Launch) (D : va_G) (ca : Nat → ClassId) (ar : Nat → Nat → Nat) (ag : Nat → Nat) (z : ZG) (P : RowsS) (G : GlbS) (xs : va_W) (a1 : Int32) (res : Int32) (h0 : f_J5_charAt_5068e G a1 = some res) (sz : Nat) : Met l yJ5_charAt_5068e (ws_ yJ5_charAt_5068e cJ5_charAt_5068e 5 (some .char)) rm_J5_charAt_5068e (PCz z D ca (wC ar ag ca P G ++ xs) sz [.ref (ag 5), .int a1]) (QMw D (wC ar ag ca P G ++ xs) (wC ar ag ca P G ++ xs) sz (some (.int res))) 0 0 (AL (wC ar ag ca P G ++ xs) sz) := by
  refine met_z (by decide +kernel) (Nat.le_of_ble_eq_true rfl) (fun p e s m args below meth c K hr0 hZ X hsz ls hl => ?_)
  have K : MC D ca p s m args meth c cJ5_charAt_5068e 5 RJ5 := K
  have hx := K.1
  have hb := K.2.1
  have hl : lv_has ls 5 [(0, .ref (ag 5)), (1, .int a1)] := hl
  generalize hQ : MQ below _ args s 0 0 _ = Q
  unfold f_J5_charAt_5068e at h0
  suffices Z : ∀ (H : Heap) (locs : List Loc) (X : RW D (wC ar ag ca P G ++ xs) s.heap H locs), W p l e rm_J5_charAt_5068e s m args below meth c H locs 0 0 Q (F0 m 0 ls []) from Z _ _ X
  intro H locs X
  refine lv_aload_n hx hb dJ5_charAt_5068e_0 rfl (lv_at hl 0 rfl) ?_
  refine g_sbc K X q334 dJ5_charAt_5068e_1 ?_
  refine lv_istore_n (lv' := [(2, .int 0), (0, .ref (ag 5)), (1, .int a1)]) hx hb dJ5_charAt_5068e_4 rfl hl (by decide) rfl (fun ls hl => ?_)
  refine lv_aload_n hx hb dJ5_charAt_5068e_5 rfl (lv_at hl 1 rfl) ?_
  refine g_sbv K X q333 dJ5_charAt_5068e_6 ?_
  refine lv_astore_n (lv' := [(3, .ref (ag 6)), (2, .int 0), (0, .ref (ag 5)), (1, .int a1)]) hx hb dJ5_charAt_5068e_9 rfl hl (by decide) rfl (fun ls hl => ?_)
  refine lv_aload_n hx hb dJ5_charAt_5068e_10 rfl (lv_at hl 2 rfl) ?_
  refine g_sbn K X q337 dJ5_charAt_5068e_11 ?_
  refine lv_aload_n hx hb dJ5_charAt_5068e_14 rfl (lv_at hl 0 rfl) ?_
  refine l_sbb K X dJ5_charAt_5068e_15 ?_
  refine lv_iload_n hx hb dJ5_charAt_5068e_16 rfl (lv_at hl 1 rfl) ?_
  refine lv_ishr hx hb dJ5_charAt_5068e_17 ?_
  refine w_int (y := 16) (by decide) ?_
  refine w_mmin K hl.1 q478 q479 q102 q480 (Nat.le_of_ble_eq_true rfl) (Nat.le_of_ble_eq_true rfl) (Nat.le_of_ble_eq_true rfl) (Nat.le_of_ble_eq_true rfl) dJ5_charAt_5068e_18 ?_
  obtain ⟨x1, ex1, h0⟩ := lt_out h0
  refine w_int ex1 ?_
  refine lv_istore (lv' := [(4, .int x1), (3, .ref (ag 6)), (2, .int 0), (0, .ref (ag 5)), (1, .int a1)]) hx hb dJ5_charAt_5068e_21 hl (by decide) rfl (fun ls hl => ?_)
  refine lv_iload_n hx hb dJ5_charAt_5068e_23 rfl (lv_at hl 4 rfl) ?_
  refine lv_iload hx hb dJ5_charAt_5068e_24 (lv_at hl 0 rfl) ?_
  obtain ⟨x2, ex2, h0⟩ := ob_out h0
  have kx2 := m_J0_checkIndex_df160 l D ca z (wC ar ag ca P G ++ xs) a1 x1  ex2 H.size
  refine z_callS K hZ X wC_fstx wC_fstx kx2 hl.1 2 q481 q482 q95 q483 hs_J0_checkIndex_df160 ⟨⟨Nat.le_of_ble_eq_true rfl, Nat.le_of_ble_eq_true rfl⟩, rfl, rfl⟩ rfl rfl (Nat.le_of_ble_eq_true rfl) dJ5_charAt_5068e_26 ⟨Nat.le_of_ble_eq_true rfl, Nat.le_of_ble_eq_true rfl⟩ rfl (fun H locs X => ?_)
  refine lv_iload_n hx hb dJ5_charAt_5068e_29 rfl (lv_at hl 2 rfl) ?_
  refine lv_if_ne (tgt := 42) hx hb dJ5_charAt_5068e_30 (by decide) (fun c3 => False.elim (by revert c3; decide)) (fun c3 => ?_)
  refine lv_aload_n hx hb dJ5_charAt_5068e_33 rfl (lv_at hl 1 rfl) ?_
  refine lv_iload_n hx hb dJ5_charAt_5068e_34 rfl (lv_at hl 4 rfl) ?_
  obtain ⟨c4, h0⟩ := if_o h0
  refine a_sbb K X (inb_vp c4) dJ5_charAt_5068e_35 ?_
  refine lv_sipush (v := 255) hx hb dJ5_charAt_5068e_36 (by decide) ?_
  refine lv_iand hx hb dJ5_charAt_5068e_39 ?_
  refine lv_i2c hx hb dJ5_charAt_5068e_40 rfl ?_
  have h0 := Option.some.inj h0
  subst h0
  subst hQ
  exact w_nret K hr0 X wC_fstx hsz (pk_nc _) dJ5_charAt_5068e_41
-- J4_charAt_5068e
def f_J4_charAt_5068e (G : GlbS) (a1 : Int32) : Option Int32 :=
  ob (f_J5_charAt_5068e G a1) fun x1 =>
  if 0 ≤ x1.toInt ∧ x1.toInt < 65536 then
    some x1
  else none
abbrev rm_J4_charAt_5068e : Room := { frames := 3, cells := 0, slots := 0, locals := 67 }
set_option maxRecDepth 100000 in
set_option maxHeartbeats 4000000 in
theorem m_J4_charAt_5068e (l : Launch) (D : va_G) (ca : Nat → ClassId) (ar : Nat → Nat → Nat) (ag : Nat → Nat) (z : ZG) (P : RowsS) (G : GlbS) (xs : va_W) (a1 : Int32) (res : Int32) (h0 : f_J4_charAt_5068e G a1 = some res) (sz : Nat) : Met l yJ4_charAt_5068e (ws_ yJ4_charAt_5068e cJ4_charAt_5068e 2 (some .char)) rm_J4_charAt_5068e (PCz z D ca (wC ar ag ca P G ++ xs) sz [.ref (ag 5), .int a1]) (QMw D (wC ar ag ca P G ++ xs) (wC ar ag ca P G ++ xs) sz (some (.int res))) 0 0 (AL (wC ar ag ca P G ++ xs) sz) := by
  refine met_z (by decide +kernel) (Nat.le_of_ble_eq_true rfl) (fun p e s m args below meth c K hr0 hZ X hsz ls hl => ?_)
  have K : MC D ca p s m args meth c cJ4_charAt_5068e 2 RJ4 := K
  have hx := K.1
  have hb := K.2.1
  have hl : lv_has ls 2 [(0, .ref (ag 5)), (1, .int a1)] := hl
  generalize hQ : MQ below _ args s 0 0 _ = Q
  unfold f_J4_charAt_5068e at h0
  suffices Z : ∀ (H : Heap) (locs : List Loc) (X : RW D (wC ar ag ca P G ++ xs) s.heap H locs), W p l e rm_J4_charAt_5068e s m args below meth c H locs 0 0 Q (F0 m 0 ls []) from Z _ _ X
  intro H locs X
  refine lv_aload_n hx hb dJ4_charAt_5068e_0 rfl (lv_at hl 0 rfl) ?_
  refine lv_iload_n hx hb dJ4_charAt_5068e_1 rfl (lv_at hl 1 rfl) ?_
  obtain ⟨x1, ex1, h0⟩ := ob_out h0
  have kx1 := m_J5_charAt_5068e l D ca ar ag z P G xs a1 x1 ex1 H.size
  refine z_callSU K hZ X wC_fstx wC_fstx kx1 hl.1 1 q475 q1995 q346 q476 q93 q477 (by decide +kernel) ⟨⟨Nat.le_of_ble_eq_true rfl, Nat.le_of_ble_eq_true rfl⟩, rfl, rfl⟩ (z_at (ci := 1) K rfl rfl) (z_recvw K X (pl_glb (k := 5) (by decide)) rfl rfl) rfl rfl (Nat.le_of_ble_eq_true rfl) dJ4_charAt_5068e_2 ⟨Nat.le_of_ble_eq_true rfl, Nat.le_of_ble_eq_true rfl⟩ rfl (fun H locs X => ?_)
  obtain ⟨c2, h0⟩ := if_o h0
  have h0 := Option.some.inj h0
  subst h0
  subst hQ
  exact w_nret K hr0 X wC_fstx hsz (nar_c c2) dJ4_charAt_5068e_5
-- J5_setLength_d00df
def b_J5_setLength_d00df_76 (a1 : Int32) (G_76 : GlbS) : Option GlbS :=
  lt (sg G_76 5 3 a1) fun Gv6 =>
  some Gv6
def f_J5_setLength_d00df (G : GlbS) (a1 : Int32) : Option GlbS :=
  if 0 ≤ a1 then
    ob (f_J5_ensureCapacityInternal_d00df G a1) fun x2 =>
    lt (x2) fun Gv3 =>
    if a1 ≤ (Gv3 5 3) then
      if (Gv3 5 3) ≤ a1 then
        b_J5_setLength_d00df_76 a1 Gv3
      else
        lt (sg Gv3 5 2 1) fun Gv7 =>
        b_J5_setLength_d00df_76 a1 Gv7
    else
      none
  else
    none
abbrev rm_J5_setLength_d00df : Room := { frames := 1, cells := 0, slots := 0, locals := 22 }
set_option maxRecDepth 100000 in
set_option maxHeartbeats 4000000 in
theorem m_J5_setLength_d00df (l : Launch) (D : va_G) (ca : Nat → ClassId) (ar : Nat → Nat → Nat) (ag : Nat → Nat) (z : ZG) (P : RowsS) (G : GlbS) (xs : va_W) (a1 : Int32) (G' : GlbS) (h0 : f_J5_setLength_d00df G a1 = some G') (sz : Nat) : Met l yJ5_setLength_d00df (ws_ yJ5_setLength_d00df cJ5_setLength_d00df 2 none) rm_J5_setLength_d00df (PCz z D ca (wC ar ag ca P G ++ xs) sz [.ref (ag 5), .int a1]) (QMw D (wC ar ag ca P G ++ xs) (wC ar ag ca P (G') ++ xs) sz none) 0 0 (AL (wC ar ag ca P G ++ xs) sz) := by
  refine met_z (by decide +kernel) (Nat.le_of_ble_eq_true rfl) (fun p e s m args below meth c K hr0 hZ X hsz ls hl => ?_)
  have K : MC D ca p s m args meth c cJ5_setLength_d00df 2 RJ5 := K
  have hx := K.1
  have hb := K.2.1
  have hl : lv_has ls 2 [(0, .ref (ag 5)), (1, .int a1)] := hl
  generalize hQ : MQ below _ args s 0 0 _ = Q
  unfold f_J5_setLength_d00df at h0
  suffices Z : ∀ (H : Heap) (locs : List Loc) (X : RW D (wC ar ag ca P G ++ xs) s.heap H locs), W p l e rm_J5_setLength_d00df s m args below meth c H locs 0 0 Q (F0 m 0 ls []) from Z _ _ X
  intro H locs X
  have J76 : ∀ (G_76 : GlbS) (H : Heap) (locs : List Loc) (X : RW D (wC ar ag ca P G_76 ++ xs) s.heap H locs) (ls : Array Slot) (hl : lv_has ls 2 [(0, .ref (ag 5)), (1, .int a1)]) (h0 : b_J5_setLength_d00df_76 a1 G_76 = some G'), W p l e rm_J5_setLength_d00df s m args below meth c H locs 0 0 Q (F0 m 76 ls []) := by
    intro G_76 H locs X ls hl h0
    unfold b_J5_setLength_d00df_76 at h0
    refine lv_aload_n hx hb dJ5_setLength_d00df_76 rfl (lv_at hl 0 rfl) ?_
    refine lv_iload_n hx hb dJ5_setLength_d00df_77 rfl (lv_at hl 1 rfl) ?_
    obtain ⟨Gv6, eGv6, h0⟩ := lt_out h0
    refine p_sbn K X eGv6 q337 dJ5_setLength_d00df_78 (fun H locs X => ?_)
    have h0 := Option.some.inj h0
    subst h0
    subst hQ
    exact w_vret K hr0 X wC_fstx hsz dJ5_setLength_d00df_81
  refine lv_iload_n hx hb dJ5_setLength_d00df_0 rfl (lv_at hl 1 rfl) ?_
  refine lv_if_ge (tgt := 13) hx hb dJ5_setLength_d00df_1 (by decide) (fun c1 => ?_) (fun c1 => ?_)
  · have h0 := if_t c1 h0
    refine lv_aload_n hx hb dJ5_setLength_d00df_13 rfl (lv_at hl 0 rfl) ?_
    refine lv_iload_n hx hb dJ5_setLength_d00df_14 rfl (lv_at hl 1 rfl) ?_
    obtain ⟨x2, ex2, h0⟩ := ob_out h0
    obtain ⟨Gv3, eGv3, h0⟩ := lt_out h0
    have kx2 := m_J5_ensureCapacityInternal_d00df l D ca ar ag z P G xs a1 x2 ex2 H.size
    rw [← eGv3] at kx2
    refine z_callU K hZ X wC_fstx wC_fstx kx2 hl.1 1 q1078 q1998 q1080 q900000 q93 q1081 rfl hs_J5_ensureCapacityInternal_d00df ⟨⟨Nat.le_of_ble_eq_true rfl, Nat.le_of_ble_eq_true rfl⟩, rfl, rfl⟩ (z_recvw K X (pl_glb (k := 5) (by decide)) rfl rfl) rfl rfl (Nat.le_of_ble_eq_true rfl) dJ5_setLength_d00df_15 ⟨Nat.le_of_ble_eq_true rfl, Nat.le_of_ble_eq_true rfl⟩ rfl (fun H locs X => ?_)
    refine lv_aload_n hx hb dJ5_setLength_d00df_18 rfl (lv_at hl 0 rfl) ?_
    refine g_sbn K X q337 dJ5_setLength_d00df_19 ?_
    refine lv_iload_n hx hb dJ5_setLength_d00df_22 rfl (lv_at hl 1 rfl) ?_
    refine lv_icmp_ge (tgt := 63) hx hb dJ5_setLength_d00df_23 (by decide) (fun c4 => ?_) (fun c4 => ?_)
    · have h0 := if_t c4 h0
      refine lv_aload_n hx hb dJ5_setLength_d00df_63 rfl (lv_at hl 0 rfl) ?_
      refine g_sbn K X q337 dJ5_setLength_d00df_64 ?_
      refine lv_iload_n hx hb dJ5_setLength_d00df_67 rfl (lv_at hl 1 rfl) ?_
      refine lv_icmp_le (tgt := 76) hx hb dJ5_setLength_d00df_68 (by decide) (fun c5 => ?_) (fun c5 => ?_)
      · have h0 := if_t c5 h0
        exact J76 Gv3 H locs X ls (lv_sub hl [0, 1] rfl) h0
      · have h0 := if_f c5 h0
        refine lv_aload_n hx hb dJ5_setLength_d00df_71 rfl (lv_at hl 0 rfl) ?_
        refine lv_iconst (v := 1) hx hb dJ5_setLength_d00df_72 (by decide) ?_
        obtain ⟨Gv7, eGv7, h0⟩ := lt_out h0
        refine p_sbm K X eGv7 q335 dJ5_setLength_d00df_73 (fun H locs X => ?_)
        exact J76 Gv7 H locs X ls (lv_sub hl [0, 1] rfl) h0
    · have h0 := if_f c4 h0
      refine lv_aload_n hx hb dJ5_setLength_d00df_26 rfl (lv_at hl 0 rfl) ?_
      have kx8 := m_J5_isLatin1_aae02 l D ca ar ag z P Gv3 xs true rfl H.size
      refine z_callU K hZ X wC_fstx wC_fstx kx8 hl.1 0 q1109 q1111 q1110 q1112 q93 q1113 rfl hs_J5_isLatin1_aae02 ⟨⟨Nat.le_of_ble_eq_true rfl, Nat.le_of_ble_eq_true rfl⟩, rfl, rfl⟩ (z_recvw K X (pl_glb (k := 5) (by decide)) rfl rfl) rfl rfl (Nat.le_of_ble_eq_true rfl) dJ5_setLength_d00df_27 ⟨Nat.le_of_ble_eq_true rfl, Nat.le_of_ble_eq_true rfl⟩ rfl (fun H locs X => ?_)
      refine w_zeq (tgt := 48) K dJ5_setLength_d00df_30 (by decide) (fun c9 => False.elim (by revert c9; decide)) (fun c9 => ?_)
      refine lv_aload_n hx hb dJ5_setLength_d00df_33 rfl (lv_at hl 0 rfl) ?_
      refine g_sbv K X q333 dJ5_setLength_d00df_34 ?_
      refine lv_aload_n hx hb dJ5_setLength_d00df_37 rfl (lv_at hl 0 rfl) ?_
      refine g_sbn K X q337 dJ5_setLength_d00df_38 ?_
      refine lv_iload_n hx hb dJ5_setLength_d00df_41 rfl (lv_at hl 1 rfl) ?_
      cases h0
  · have h0 := if_f c1 h0
    cases h0
-- J4_setLength_d00df
def f_J4_setLength_d00df (G : GlbS) (a1 : Int32) : Option GlbS :=
  ob (f_J5_setLength_d00df G a1) fun x1 =>
  lt (x1) fun Gv2 =>
  some Gv2
abbrev rm_J4_setLength_d00df : Room := { frames := 2, cells := 0, slots := 0, locals := 43 }
set_option maxRecDepth 100000 in
set_option maxHeartbeats 4000000 in
theorem m_J4_setLength_d00df (l : Launch) (D : va_G) (ca : Nat → ClassId) (ar : Nat → Nat → Nat) (ag : Nat → Nat) (z : ZG) (P : RowsS) (G : GlbS) (xs : va_W) (a1 : Int32) (G' : GlbS) (h0 : f_J4_setLength_d00df G a1 = some G') (sz : Nat) : Met l yJ4_setLength_d00df (ws_ yJ4_setLength_d00df cJ4_setLength_d00df 2 none) rm_J4_setLength_d00df (PCz z D ca (wC ar ag ca P G ++ xs) sz [.ref (ag 5), .int a1]) (QMw D (wC ar ag ca P G ++ xs) (wC ar ag ca P (G') ++ xs) sz none) 0 0 (AL (wC ar ag ca P G ++ xs) sz) := by
  refine met_z (by decide +kernel) (Nat.le_of_ble_eq_true rfl) (fun p e s m args below meth c K hr0 hZ X hsz ls hl => ?_)
  have K : MC D ca p s m args meth c cJ4_setLength_d00df 2 RJ4 := K
  have hx := K.1
  have hb := K.2.1
  have hl : lv_has ls 2 [(0, .ref (ag 5)), (1, .int a1)] := hl
  generalize hQ : MQ below _ args s 0 0 _ = Q
  unfold f_J4_setLength_d00df at h0
  suffices Z : ∀ (H : Heap) (locs : List Loc) (X : RW D (wC ar ag ca P G ++ xs) s.heap H locs), W p l e rm_J4_setLength_d00df s m args below meth c H locs 0 0 Q (F0 m 0 ls []) from Z _ _ X
  intro H locs X
  refine lv_aload_n hx hb dJ4_setLength_d00df_0 rfl (lv_at hl 0 rfl) ?_
  refine lv_iload_n hx hb dJ4_setLength_d00df_1 rfl (lv_at hl 1 rfl) ?_
  obtain ⟨x1, ex1, h0⟩ := ob_out h0
  obtain ⟨Gv2, eGv2, h0⟩ := lt_out h0
  have kx1 := m_J5_setLength_d00df l D ca ar ag z P G xs a1 x1 ex1 H.size
  rw [← eGv2] at kx1
  refine z_callSU K hZ X wC_fstx wC_fstx kx1 hl.1 1 q1075 q1997 q346 q1076 q93 q1077 (by decide +kernel) ⟨⟨Nat.le_of_ble_eq_true rfl, Nat.le_of_ble_eq_true rfl⟩, rfl, rfl⟩ (z_at (ci := 1) K rfl rfl) (z_recvw K X (pl_glb (k := 5) (by decide)) rfl rfl) rfl rfl (Nat.le_of_ble_eq_true rfl) dJ4_setLength_d00df_2 ⟨Nat.le_of_ble_eq_true rfl, Nat.le_of_ble_eq_true rfl⟩ rfl (fun H locs X => ?_)
  have h0 := Option.some.inj h0
  subst h0
  subst hQ
  exact w_vret K hr0 X wC_fstx hsz dJ4_setLength_d00df_5
-- J5_length_8abf5
def f_J5_length_8abf5 (G : GlbS) : Int32 :=
  (G 5 3)
abbrev rm_J5_length_8abf5 : Room := { frames := 0, cells := 0, slots := 0, locals := 0 }
set_option maxRecDepth 100000 in
set_option maxHeartbeats 4000000 in
theorem m_J5_length_8abf5 (l : Launch) (D : va_G) (ca : Nat → ClassId) (ar : Nat → Nat → Nat) (ag : Nat → Nat) (z : ZG) (P : RowsS) (G : GlbS) (xs : va_W) (res : Int32) (h0 : f_J5_length_8abf5 G = res) (sz : Nat) : Met l yJ5_length_8abf5 (ws_ yJ5_length_8abf5 cJ5_length_8abf5 1 (some .int)) rm_J5_length_8abf5 (PCz z D ca (wC ar ag ca P G ++ xs) sz [.ref (ag 5)]) (QMw D (wC ar ag ca P G ++ xs) (wC ar ag ca P G ++ xs) sz (some (.int res))) 0 0 (AL (wC ar ag ca P G ++ xs) sz) := by
  refine met_z (by decide +kernel) (Nat.le_of_ble_eq_true rfl) (fun p e s m args below meth c K hr0 hZ X hsz ls hl => ?_)
  have K : MC D ca p s m args meth c cJ5_length_8abf5 1 RJ5 := K
  have hx := K.1
  have hb := K.2.1
  have hl : lv_has ls 1 [(0, .ref (ag 5))] := hl
  generalize hQ : MQ below _ args s 0 0 _ = Q
  unfold f_J5_length_8abf5 at h0
  suffices Z : ∀ (H : Heap) (locs : List Loc) (X : RW D (wC ar ag ca P G ++ xs) s.heap H locs), W p l e rm_J5_length_8abf5 s m args below meth c H locs 0 0 Q (F0 m 0 ls []) from Z _ _ X
  intro H locs X
  refine lv_aload_n hx hb dJ5_length_8abf5_0 rfl (lv_at hl 0 rfl) ?_
  refine g_sbn K X q337 dJ5_length_8abf5_1 ?_
  subst h0
  subst hQ
  exact w_iret K hr0 X wC_fstx hsz dJ5_length_8abf5_4
-- J4_length_8abf5
def f_J4_length_8abf5 (G : GlbS) : Int32 :=
  lt (f_J5_length_8abf5 G) fun x1 =>
  x1
abbrev rm_J4_length_8abf5 : Room := { frames := 1, cells := 0, slots := 0, locals := 20 }
set_option maxRecDepth 100000 in
set_option maxHeartbeats 4000000 in
theorem m_J4_length_8abf5 (l : Launch) (D : va_G) (ca : Nat → ClassId) (ar : Nat → Nat → Nat) (ag : Nat → Nat) (z : ZG) (P : RowsS) (G : GlbS) (xs : va_W) (res : Int32) (h0 : f_J4_length_8abf5 G = res) (sz : Nat) : Met l yJ4_length_8abf5 (ws_ yJ4_length_8abf5 cJ4_length_8abf5 1 (some .int)) rm_J4_length_8abf5 (PCz z D ca (wC ar ag ca P G ++ xs) sz [.ref (ag 5)]) (QMw D (wC ar ag ca P G ++ xs) (wC ar ag ca P G ++ xs) sz (some (.int res))) 0 0 (AL (wC ar ag ca P G ++ xs) sz) := by
  refine met_z (by decide +kernel) (Nat.le_of_ble_eq_true rfl) (fun p e s m args below meth c K hr0 hZ X hsz ls hl => ?_)
  have K : MC D ca p s m args meth c cJ4_length_8abf5 1 RJ4 := K
  have hx := K.1
  have hb := K.2.1
  have hl : lv_has ls 1 [(0, .ref (ag 5))] := hl
  generalize hQ : MQ below _ args s 0 0 _ = Q
  unfold f_J4_length_8abf5 at h0
  suffices Z : ∀ (H : Heap) (locs : List Loc) (X : RW D (wC ar ag ca P G ++ xs) s.heap H locs), W p l e rm_J4_length_8abf5 s m args below meth c H locs 0 0 Q (F0 m 0 ls []) from Z _ _ X
  intro H locs X
  refine lv_aload_n hx hb dJ4_length_8abf5_0 rfl (lv_at hl 0 rfl) ?_
  obtain ⟨x1, ex1, h0⟩ := lt_out h0
  have kx1 := m_J5_length_8abf5 l D ca ar ag z P G xs x1 ex1.symm H.size
  refine z_callSU K hZ X wC_fstx wC_fstx kx1 hl.1 0 q468 q1994 q346 q469 q93 q470 (by decide +kernel) ⟨⟨Nat.le_of_ble_eq_true rfl, Nat.le_of_ble_eq_true rfl⟩, rfl, rfl⟩ (z_at (ci := 1) K rfl rfl) (z_recvw K X (pl_glb (k := 5) (by decide)) rfl rfl) rfl rfl (Nat.le_of_ble_eq_true rfl) dJ4_length_8abf5_1 ⟨Nat.le_of_ble_eq_true rfl, Nat.le_of_ble_eq_true rfl⟩ rfl (fun H locs X => ?_)
  subst h0
  subst hQ
  exact w_iret K hr0 X wC_fstx hsz dJ4_length_8abf5_4
