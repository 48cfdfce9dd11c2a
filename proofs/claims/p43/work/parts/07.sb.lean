-- J0_coder_7d493
def f_J0_coder_7d493 (a0 : Nat) : Int32 :=
  0
abbrev rm_J0_coder_7d493 : Room := { frames := 0, cells := 0, slots := 0, locals := 0 }
set_option maxRecDepth 100000 in
set_option maxHeartbeats 4000000 in
theorem m_J0_coder_7d493 (l : Launch) (D : va_G) (ca : Nat → ClassId) (z : ZG) (ws : va_W) (a0 : Nat) (ha0 : a0 < 21) (res : Int32) (h0 : f_J0_coder_7d493 a0 = res) (sz : Nat) : Met l yJ0_coder_7d493 (ws_ yJ0_coder_7d493 cJ0_coder_7d493 1 (some .byte)) rm_J0_coder_7d493 (PCz z D ca (ws) sz [.ref (z.1 a0)]) (QMw D (ws) (ws) sz (some (.int res))) 0 0 (AL (ws) sz) := by
  refine met_z (by decide +kernel) (Nat.le_of_ble_eq_true rfl) (fun p e s m args below meth c K hr0 hZ X hsz ls hl => ?_)
  have K : MC D ca p s m args meth c cJ0_coder_7d493 1 RJ0 := K
  have hx := K.1
  have hb := K.2.1
  have hl : lv_has ls 1 [(0, .ref (z.1 a0))] := hl
  generalize hQ : MQ below _ args s 0 0 _ = Q
  unfold f_J0_coder_7d493 at h0
  suffices Z : ∀ (H : Heap) (locs : List Loc) (X : RW D (ws) s.heap H locs), W p l e rm_J0_coder_7d493 s m args below meth c H locs 0 0 Q (F0 m 0 ls []) from Z _ _ X
  intro H locs X
  refine z_compact K hZ X rfl q330 dJ0_coder_7d493_0 ?_
  refine lv_if_eq (tgt := 13) hx hb dJ0_coder_7d493_3 (by decide) (fun c1 => False.elim (by revert c1; decide)) (fun c1 => ?_)
  refine lv_aload_n hx hb dJ0_coder_7d493_6 rfl (lv_at hl 0 rfl) ?_
  refine z_cod K hZ X rfl ha0 q854 dJ0_coder_7d493_7 ?_
  refine lv_goto (tgt := 14) hx hb dJ0_coder_7d493_10 (by decide) ?_
  subst h0
  subst hQ
  exact w_nret K hr0 X rfl hsz rfl dJ0_coder_7d493_14
-- J0_length_8abf5
def f_J0_length_8abf5 (a0 : Nat) : Int32 :=
  ((nI (zlen a0)) >>> ((0 : Int32) &&& 31))
abbrev rm_J0_length_8abf5 : Room := { frames := 1, cells := 0, slots := 0, locals := 20 }
set_option maxRecDepth 100000 in
set_option maxHeartbeats 4000000 in
theorem m_J0_length_8abf5 (l : Launch) (D : va_G) (ca : Nat → ClassId) (z : ZG) (ws : va_W) (a0 : Nat) (ha0 : a0 < 21) (res : Int32) (h0 : f_J0_length_8abf5 a0 = res) (sz : Nat) : Met l yJ0_length_8abf5 (ws_ yJ0_length_8abf5 cJ0_length_8abf5 1 (some .int)) rm_J0_length_8abf5 (PCz z D ca (ws) sz [.ref (z.1 a0)]) (QMw D (ws) (ws) sz (some (.int res))) 0 0 (AL (ws) sz) := by
  refine met_z (by decide +kernel) (Nat.le_of_ble_eq_true rfl) (fun p e s m args below meth c K hr0 hZ X hsz ls hl => ?_)
  have K : MC D ca p s m args meth c cJ0_length_8abf5 1 RJ0 := K
  have hx := K.1
  have hb := K.2.1
  have hl : lv_has ls 1 [(0, .ref (z.1 a0))] := hl
  generalize hQ : MQ below _ args s 0 0 _ = Q
  unfold f_J0_length_8abf5 at h0
  suffices Z : ∀ (H : Heap) (locs : List Loc) (X : RW D (ws) s.heap H locs), W p l e rm_J0_length_8abf5 s m args below meth c H locs 0 0 Q (F0 m 0 ls []) from Z _ _ X
  intro H locs X
  refine lv_aload_n hx hb dJ0_length_8abf5_0 rfl (lv_at hl 0 rfl) ?_
  refine z_val K hZ X rfl ha0 q853 dJ0_length_8abf5_1 ?_
  refine z_len K hZ X rfl ha0 dJ0_length_8abf5_4 ?_
  refine lv_aload_n hx hb dJ0_length_8abf5_5 rfl (lv_at hl 0 rfl) ?_
  have kx1 := m_J0_coder_7d493 l D ca z (ws) a0 ha0 0 rfl H.size
  refine z_callV K hZ X rfl rfl kx1 hl.1 0 q326 q327 q328 q24 q329 hv_J0_coder_7d493 ⟨⟨Nat.le_of_ble_eq_true rfl, Nat.le_of_ble_eq_true rfl⟩, rfl, rfl⟩ (z_recv hZ X rfl ha0) rfl rfl (Nat.le_of_ble_eq_true rfl) dJ0_length_8abf5_6 ⟨Nat.le_of_ble_eq_true rfl, Nat.le_of_ble_eq_true rfl⟩ rfl (fun H locs X => ?_)
  refine lv_ishr hx hb dJ0_length_8abf5_9 ?_
  subst h0
  subst hQ
  exact w_iret K hr0 X rfl hsz dJ0_length_8abf5_10
-- J0_isLatin1_aae02
def f_J0_isLatin1_aae02 (a0 : Nat) : Bool :=
  true
abbrev rm_J0_isLatin1_aae02 : Room := { frames := 0, cells := 0, slots := 0, locals := 0 }
set_option maxRecDepth 100000 in
set_option maxHeartbeats 4000000 in
theorem m_J0_isLatin1_aae02 (l : Launch) (D : va_G) (ca : Nat → ClassId) (z : ZG) (ws : va_W) (a0 : Nat) (ha0 : a0 < 21) (res : Bool) (h0 : f_J0_isLatin1_aae02 a0 = res) (sz : Nat) : Met l yJ0_isLatin1_aae02 (ws_ yJ0_isLatin1_aae02 cJ0_isLatin1_aae02 1 (some .boolean)) rm_J0_isLatin1_aae02 (PCz z D ca (ws) sz [.ref (z.1 a0)]) (QMw D (ws) (ws) sz (some (.int (b2i res)))) 0 0 (AL (ws) sz) := by
  refine met_z (by decide +kernel) (Nat.le_of_ble_eq_true rfl) (fun p e s m args below meth c K hr0 hZ X hsz ls hl => ?_)
  have K : MC D ca p s m args meth c cJ0_isLatin1_aae02 1 RJ0 := K
  have hx := K.1
  have hb := K.2.1
  have hl : lv_has ls 1 [(0, .ref (z.1 a0))] := hl
  generalize hQ : MQ below _ args s 0 0 _ = Q
  unfold f_J0_isLatin1_aae02 at h0
  suffices Z : ∀ (H : Heap) (locs : List Loc) (X : RW D (ws) s.heap H locs), W p l e rm_J0_isLatin1_aae02 s m args below meth c H locs 0 0 Q (F0 m 0 ls []) from Z _ _ X
  intro H locs X
  refine z_compact K hZ X rfl q330 dJ0_isLatin1_aae02_0 ?_
  refine lv_if_eq (tgt := 17) hx hb dJ0_isLatin1_aae02_3 (by decide) (fun c1 => False.elim (by revert c1; decide)) (fun c1 => ?_)
  refine lv_aload_n hx hb dJ0_isLatin1_aae02_6 rfl (lv_at hl 0 rfl) ?_
  refine z_cod K hZ X rfl ha0 q854 dJ0_isLatin1_aae02_7 ?_
  refine lv_if_ne (tgt := 17) hx hb dJ0_isLatin1_aae02_10 (by decide) (fun c2 => False.elim (by revert c2; decide)) (fun c2 => ?_)
  refine lv_iconst (v := 1) hx hb dJ0_isLatin1_aae02_13 (by decide) ?_
  refine lv_goto (tgt := 18) hx hb dJ0_isLatin1_aae02_14 (by decide) ?_
  subst h0
  subst hQ
  refine w_int (y := b2i true) (by decide) ?_
  exact w_zret K hr0 X rfl hsz (b2i_nar _) dJ0_isLatin1_aae02_18
-- J3_checkIndex_8e157
def b_J3_checkIndex_8e157_9   : Option Int32 :=
  none
def f_J3_checkIndex_8e157 (a1 : Int32) (a2 : Int32) : Option Int32 :=
  if a1 < 0 then
    b_J3_checkIndex_8e157_9
  else
    if a1 < a2 then
      some a1
    else
      b_J3_checkIndex_8e157_9
abbrev rm_J3_checkIndex_8e157 : Room := { frames := 0, cells := 0, slots := 0, locals := 0 }
set_option maxRecDepth 100000 in
set_option maxHeartbeats 4000000 in
theorem m_J3_checkIndex_8e157 (l : Launch) (D : va_G) (ca : Nat → ClassId) (ws : va_W) (a1 : Int32) (a2 : Int32) (a3 : Option Nat) (res : Int32) (h0 : f_J3_checkIndex_8e157 a1 a2 = some res) (sz : Nat) : Met l yJ3_checkIndex_8e157 (ws_ yJ3_checkIndex_8e157 cJ3_checkIndex_8e157 3 (some .int)) rm_J3_checkIndex_8e157 (PCw D ca (ws) sz [.int a1, .int a2, va_rf a3]) (QMw D (ws) (ws) sz (some (.int res))) 0 0 (AL (ws) sz) := by
  refine met_ofF (by decide +kernel) (by cases a3 <;> exact Nat.le_of_ble_eq_true rfl) (fun p e s m args below meth c K hr0 X hsz ls hl => ?_)
  have K : MC D ca p s m args meth c cJ3_checkIndex_8e157 3 RJ3 := K
  have hx := K.1
  have hb := K.2.1
  have hl : lv_has ls 3 [(0, .int a1), (1, .int a2), (2, va_rf a3)] := by cases a3 <;> exact hl
  generalize hQ : MQ below _ args s 0 0 _ = Q
  unfold f_J3_checkIndex_8e157 at h0
  suffices Z : ∀ (H : Heap) (locs : List Loc) (X : RW D (ws) s.heap H locs), W p l e rm_J3_checkIndex_8e157 s m args below meth c H locs 0 0 Q (F0 m 0 ls []) from Z _ _ X
  intro H locs X
  have J9 : ∀  (H : Heap) (locs : List Loc) (X : RW D (ws) s.heap H locs) (ls : Array Slot) (hl : lv_has ls 3 [(0, .int a1), (1, .int a2), (2, va_rf a3)]) (h0 : b_J3_checkIndex_8e157_9 = some res), W p l e rm_J3_checkIndex_8e157 s m args below meth c H locs 0 0 Q (F0 m 9 ls []) := by
    intro  H locs X ls hl h0
    unfold b_J3_checkIndex_8e157_9 at h0
    cases h0
  refine lv_iload_n hx hb dJ3_checkIndex_8e157_0 rfl (lv_at hl 0 rfl) ?_
  refine lv_if_lt (tgt := 9) hx hb dJ3_checkIndex_8e157_1 (by decide) (fun c1 => ?_) (fun c1 => ?_)
  · have h0 := if_t c1 h0
    exact J9  H locs X ls (lv_sub hl [0, 1, 2] rfl) h0
  · have h0 := if_f c1 h0
    refine lv_iload_n hx hb dJ3_checkIndex_8e157_4 rfl (lv_at hl 0 rfl) ?_
    refine lv_iload_n hx hb dJ3_checkIndex_8e157_5 rfl (lv_at hl 1 rfl) ?_
    refine lv_icmp_lt (tgt := 16) hx hb dJ3_checkIndex_8e157_6 (by decide) (fun c2 => ?_) (fun c2 => ?_)
    · have h0 := if_t c2 h0
      refine lv_iload_n hx hb dJ3_checkIndex_8e157_16 rfl (lv_at hl 0 rfl) ?_
      have h0 := Option.some.inj h0
      subst h0
      subst hQ
      exact w_iret K hr0 X rfl hsz dJ3_checkIndex_8e157_17
    · have h0 := if_f c2 h0
      exact J9  H locs X ls (lv_sub hl [0, 1, 2] rfl) h0
-- J0_checkIndex_df160
def f_J0_checkIndex_df160 (a1 : Int32) (a2 : Int32) : Option Unit :=
  ob (f_J3_checkIndex_8e157 a1 a2) fun x2 =>
  some ()
abbrev rm_J0_checkIndex_df160 : Room := { frames := 1, cells := 0, slots := 0, locals := 22 }
set_option maxRecDepth 100000 in
set_option maxHeartbeats 4000000 in
theorem m_J0_checkIndex_df160 (l : Launch) (D : va_G) (ca : Nat → ClassId) (z : ZG) (ws : va_W) (a1 : Int32) (a2 : Int32)  (h0 : f_J0_checkIndex_df160 a1 a2 = some ()) (sz : Nat) : Met l yJ0_checkIndex_df160 (ws_ yJ0_checkIndex_df160 cJ0_checkIndex_df160 2 none) rm_J0_checkIndex_df160 (PCz z D ca (ws) sz [.int a1, .int a2]) (QMw D (ws) (ws) sz none) 0 0 (AL (ws) sz) := by
  refine met_z (by decide +kernel) (Nat.le_of_ble_eq_true rfl) (fun p e s m args below meth c K hr0 hZ X hsz ls hl => ?_)
  have K : MC D ca p s m args meth c cJ0_checkIndex_df160 2 RJ0 := K
  have hx := K.1
  have hb := K.2.1
  have hl : lv_has ls 2 [(0, .int a1), (1, .int a2)] := hl
  generalize hQ : MQ below _ args s 0 0 _ = Q
  unfold f_J0_checkIndex_df160 at h0
  suffices Z : ∀ (H : Heap) (locs : List Loc) (X : RW D (ws) s.heap H locs), W p l e rm_J0_checkIndex_df160 s m args below meth c H locs 0 0 Q (F0 m 0 ls []) from Z _ _ X
  intro H locs X
  refine lv_iload_n hx hb dJ0_checkIndex_df160_0 rfl (lv_at hl 0 rfl) ?_
  refine lv_iload_n hx hb dJ0_checkIndex_df160_1 rfl (lv_at hl 1 rfl) ?_
  refine z_fmt K hZ X rfl q345 dJ0_checkIndex_df160_2 (fun o1 => ?_)
  obtain ⟨x2, ex2, h0⟩ := ob_out h0
  have kx2 := m_J3_checkIndex_8e157 l D ca (ws) a1 a2 o1 x2 ex2 H.size
  refine w_callS0 K X rfl kx2 hl.1 3 q347 q348 q27 q349 hs_J3_checkIndex_8e157 ⟨⟨Nat.le_of_ble_eq_true rfl, Nat.le_of_ble_eq_true rfl⟩, rfl, rfl⟩ rfl rfl (Nat.le_of_ble_eq_true rfl) dJ0_checkIndex_df160_5 ⟨Nat.le_of_ble_eq_true rfl, Nat.le_of_ble_eq_true rfl⟩ rfl (fun H locs X => ?_)
  refine lv_pop hx hb dJ0_checkIndex_df160_8 rfl ?_
  have h0 := Option.some.inj h0
  subst hQ
  exact w_vret K hr0 X rfl hsz dJ0_checkIndex_df160_9
-- J1_charAt_3b067
def f_J1_charAt_3b067 (a1 : Nat) (a2 : Int32) : Option Int32 :=
  ob (f_J0_checkIndex_df160 a2 (nI (zlen a1))) fun x1 =>
  if 0 ≤ a2.toInt ∧ a2.toInt < (zlen a1 : Int) then
    some ((((zch a1 a2.toNatClampNeg) &&& 255).toUInt32 % 65536).toInt32)
  else none
abbrev rm_J1_charAt_3b067 : Room := { frames := 2, cells := 0, slots := 0, locals := 43 }
set_option maxRecDepth 100000 in
set_option maxHeartbeats 4000000 in
theorem m_J1_charAt_3b067 (l : Launch) (D : va_G) (ca : Nat → ClassId) (z : ZG) (ws : va_W) (a1 : Nat) (ha1 : a1 < 21) (a2 : Int32) (res : Int32) (h0 : f_J1_charAt_3b067 a1 a2 = some res) (sz : Nat) : Met l yJ1_charAt_3b067 (ws_ yJ1_charAt_3b067 cJ1_charAt_3b067 2 (some .char)) rm_J1_charAt_3b067 (PCz z D ca (ws) sz [.ref (z.2.1 a1), .int a2]) (QMw D (ws) (ws) sz (some (.int res))) 0 0 (AL (ws) sz) := by
  refine met_z (by decide +kernel) (Nat.le_of_ble_eq_true rfl) (fun p e s m args below meth c K hr0 hZ X hsz ls hl => ?_)
  have K : MC D ca p s m args meth c cJ1_charAt_3b067 2 RJ1 := K
  have hx := K.1
  have hb := K.2.1
  have hl : lv_has ls 2 [(0, .ref (z.2.1 a1)), (1, .int a2)] := hl
  generalize hQ : MQ below _ args s 0 0 _ = Q
  unfold f_J1_charAt_3b067 at h0
  suffices Z : ∀ (H : Heap) (locs : List Loc) (X : RW D (ws) s.heap H locs), W p l e rm_J1_charAt_3b067 s m args below meth c H locs 0 0 Q (F0 m 0 ls []) from Z _ _ X
  intro H locs X
  refine lv_iload_n hx hb dJ1_charAt_3b067_0 rfl (lv_at hl 1 rfl) ?_
  refine lv_aload_n hx hb dJ1_charAt_3b067_1 rfl (lv_at hl 0 rfl) ?_
  refine z_len K hZ X rfl ha1 dJ1_charAt_3b067_2 ?_
  obtain ⟨x1, ex1, h0⟩ := ob_out h0
  have kx1 := m_J0_checkIndex_df160 l D ca z (ws) a2 (nI (zlen a1))  ex1 H.size
  refine z_callS K hZ X rfl rfl kx1 hl.1 2 q342 q343 q24 q344 hs_J0_checkIndex_df160 ⟨⟨Nat.le_of_ble_eq_true rfl, Nat.le_of_ble_eq_true rfl⟩, rfl, rfl⟩ rfl rfl (Nat.le_of_ble_eq_true rfl) dJ1_charAt_3b067_3 ⟨Nat.le_of_ble_eq_true rfl, Nat.le_of_ble_eq_true rfl⟩ rfl (fun H locs X => ?_)
  refine lv_aload_n hx hb dJ1_charAt_3b067_6 rfl (lv_at hl 0 rfl) ?_
  refine lv_iload_n hx hb dJ1_charAt_3b067_7 rfl (lv_at hl 1 rfl) ?_
  obtain ⟨c2, h0⟩ := if_o h0
  refine z_bald K hZ X rfl ha1 (inb_vp c2) dJ1_charAt_3b067_8 ?_
  refine lv_sipush (v := 255) hx hb dJ1_charAt_3b067_9 (by decide) ?_
  refine lv_iand hx hb dJ1_charAt_3b067_12 ?_
  refine lv_i2c hx hb dJ1_charAt_3b067_13 rfl ?_
  have h0 := Option.some.inj h0
  subst h0
  subst hQ
  exact w_nret K hr0 X rfl hsz (pk_nc _) dJ1_charAt_3b067_14
-- J0_charAt_5068e
def f_J0_charAt_5068e (a0 : Nat) (a1 : Int32) : Option Int32 :=
  ob (f_J1_charAt_3b067 a0 a1) fun x3 =>
  if 0 ≤ x3.toInt ∧ x3.toInt < 65536 then
    some x3
  else none
abbrev rm_J0_charAt_5068e : Room := { frames := 3, cells := 0, slots := 0, locals := 64 }
set_option maxRecDepth 100000 in
set_option maxHeartbeats 4000000 in
theorem m_J0_charAt_5068e (l : Launch) (D : va_G) (ca : Nat → ClassId) (z : ZG) (ws : va_W) (a0 : Nat) (ha0 : a0 < 21) (a1 : Int32) (res : Int32) (h0 : f_J0_charAt_5068e a0 a1 = some res) (sz : Nat) : Met l yJ0_charAt_5068e (ws_ yJ0_charAt_5068e cJ0_charAt_5068e 2 (some .char)) rm_J0_charAt_5068e (PCz z D ca (ws) sz [.ref (z.1 a0), .int a1]) (QMw D (ws) (ws) sz (some (.int res))) 0 0 (AL (ws) sz) := by
  refine met_z (by decide +kernel) (Nat.le_of_ble_eq_true rfl) (fun p e s m args below meth c K hr0 hZ X hsz ls hl => ?_)
  have K : MC D ca p s m args meth c cJ0_charAt_5068e 2 RJ0 := K
  have hx := K.1
  have hb := K.2.1
  have hl : lv_has ls 2 [(0, .ref (z.1 a0)), (1, .int a1)] := hl
  generalize hQ : MQ below _ args s 0 0 _ = Q
  unfold f_J0_charAt_5068e at h0
  suffices Z : ∀ (H : Heap) (locs : List Loc) (X : RW D (ws) s.heap H locs), W p l e rm_J0_charAt_5068e s m args below meth c H locs 0 0 Q (F0 m 0 ls []) from Z _ _ X
  intro H locs X
  refine lv_aload_n hx hb dJ0_charAt_5068e_0 rfl (lv_at hl 0 rfl) ?_
  have kx1 := m_J0_isLatin1_aae02 l D ca z (ws) a0 ha0 true rfl H.size
  refine z_callV K hZ X rfl rfl kx1 hl.1 0 q335 q336 q337 q24 q338 hv_J0_isLatin1_aae02 ⟨⟨Nat.le_of_ble_eq_true rfl, Nat.le_of_ble_eq_true rfl⟩, rfl, rfl⟩ (z_recv hZ X rfl ha0) rfl rfl (Nat.le_of_ble_eq_true rfl) dJ0_charAt_5068e_1 ⟨Nat.le_of_ble_eq_true rfl, Nat.le_of_ble_eq_true rfl⟩ rfl (fun H locs X => ?_)
  refine w_zeq (tgt := 16) K dJ0_charAt_5068e_4 (by decide) (fun c2 => False.elim (by revert c2; decide)) (fun c2 => ?_)
  refine lv_aload_n hx hb dJ0_charAt_5068e_7 rfl (lv_at hl 0 rfl) ?_
  refine z_val K hZ X rfl ha0 q853 dJ0_charAt_5068e_8 ?_
  refine lv_iload_n hx hb dJ0_charAt_5068e_11 rfl (lv_at hl 1 rfl) ?_
  obtain ⟨x3, ex3, h0⟩ := ob_out h0
  have kx3 := m_J1_charAt_3b067 l D ca z (ws) a0 ha0 a1 x3 ex3 H.size
  refine z_callS K hZ X rfl rfl kx3 hl.1 2 q339 q340 q26 q341 hs_J1_charAt_3b067 ⟨⟨Nat.le_of_ble_eq_true rfl, Nat.le_of_ble_eq_true rfl⟩, rfl, rfl⟩ rfl rfl (Nat.le_of_ble_eq_true rfl) dJ0_charAt_5068e_12 ⟨Nat.le_of_ble_eq_true rfl, Nat.le_of_ble_eq_true rfl⟩ rfl (fun H locs X => ?_)
  obtain ⟨c4, h0⟩ := if_o h0
  have h0 := Option.some.inj h0
  subst h0
  subst hQ
  exact w_nret K hr0 X rfl hsz (nar_c c4) dJ0_charAt_5068e_15
