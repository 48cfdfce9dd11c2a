-- X7_feed
def f_X7_feed (n : Nat) (P : RowsS) (G : GlbS) (a1 : Int32) (a2 : Int32) (a3 : Int32) (a4 : Int32) (a5 : Int32) : Option (Int32 × GlbS) :=
  lt (f_X5_hasRoomFor G 20) fun x1 =>
  if x1 = true then
    ob (f_X5_append n G a1) fun x3 =>
    lt (x3) fun Gv4 =>
    ob (f_X5_append n Gv4 a2) fun x5 =>
    lt (x5) fun Gv6 =>
    ob (f_X5_append n Gv6 a3) fun x7 =>
    lt (x7) fun Gv8 =>
    ob (f_X5_append n Gv8 a4) fun x9 =>
    lt (x9) fun Gv10 =>
    ob (f_X5_append n Gv10 a5) fun x11 =>
    lt (x11) fun Gv12 =>
    some ((Gv12 3 1), Gv12)
  else
    some ((-1), G)
abbrev rm_X7_feed : Room := { frames := 1, cells := 0, slots := 0, locals := 22 }
set_option maxRecDepth 100000 in
set_option maxHeartbeats 4000000 in
theorem m_X7_feed (l : Launch) (D : va_G) (ca : Nat → ClassId) (ar : Nat → Nat → Nat) (ag : Nat → Nat) (n : Nat) (P : RowsS) (G : GlbS) (xs : va_W) (a1 : Int32) (a2 : Int32) (a3 : Int32) (a4 : Int32) (a5 : Int32) (res : Int32) (G' : GlbS) (h0 : f_X7_feed n P G a1 a2 a3 a4 a5 = some (res, G')) (sz : Nat) : Met l yX7_feed (ws_ yX7_feed cX7_feed 6 (some .int)) rm_X7_feed (PCw D ca (wC ar ag ca P G ++ xs) sz [.ref (ag 0), .int a1, .int a2, .int a3, .int a4, .int a5]) (QMw D (wC ar ag ca P G ++ xs) (wC ar ag ca P (G') ++ xs) sz (some (.int res))) 0 0 (AL (wC ar ag ca P G ++ xs) sz) := by
  refine met_of (by decide) (Nat.le_of_ble_eq_true rfl) (fun p e s m args below meth c K hr0 X hsz ls hl => ?_)
  have K : MC D ca p s m args meth c cX7_feed 6 RX7 := K
  have hx := K.1
  have hb := K.2.1
  have hl : lv_has ls 6 [(0, .ref (ag 0)), (1, .int a1), (2, .int a2), (3, .int a3), (4, .int a4), (5, .int a5)] := hl
  generalize hQ : MQ below _ args s 0 0 _ = Q
  unfold f_X7_feed at h0
  suffices Z : ∀ (H : Heap) (locs : List Loc) (X : RW D (wC ar ag ca P G ++ xs) s.heap H locs), W p l e rm_X7_feed s m args below meth c H locs 0 0 Q (F0 m 0 ls []) from Z _ _ X
  intro H locs X
  refine lv_aload_n hx hb dX7_feed_0 rfl (lv_at hl 0 rfl) ?_
  refine g_objr K X 4 (by decide) rfl q278 dX7_feed_1 ?_
  refine lv_bipush (v := 20) hx hb dX7_feed_4 (by decide) ?_
  obtain ⟨x1, ex1, h0⟩ := lt_out h0
  have kx1 := m_X5_hasRoomFor l D ca ar ag P G xs 20 x1 ex1.symm H.size
  refine w_callV0 K X wC_fstx kx1 hl.1 1 q390 q391 q392 q21 q393 hv_X5_hasRoomFor ⟨⟨Nat.le_of_ble_eq_true rfl, Nat.le_of_ble_eq_true rfl⟩, rfl, rfl⟩ (pl_glb (k := 3) (by decide)) rfl rfl rfl rfl (Nat.le_of_ble_eq_true rfl) dX7_feed_6 ⟨Nat.le_of_ble_eq_true rfl, Nat.le_of_ble_eq_true rfl⟩ rfl (fun H locs X => ?_)
  refine w_zne (tgt := 14) K dX7_feed_9 (by decide) (fun c2 => ?_) (fun c2 => ?_)
  · have h0 := if_t c2 h0
    refine lv_aload_n hx hb dX7_feed_14 rfl (lv_at hl 0 rfl) ?_
    refine g_objr K X 4 (by decide) rfl q278 dX7_feed_15 ?_
    refine lv_iload_n hx hb dX7_feed_18 rfl (lv_at hl 1 rfl) ?_
    obtain ⟨x3, ex3, h0⟩ := ob_out h0
    obtain ⟨Gv4, eGv4, h0⟩ := lt_out h0
    have kx3 := m_X5_append l D ca ar ag n P G xs a1 x3 ex3 H.size
    rw [← eGv4] at kx3
    refine w_callV0 K X wC_fstx kx3 hl.1 1 q394 q395 q396 q21 q397 hv_X5_append ⟨⟨Nat.le_of_ble_eq_true rfl, Nat.le_of_ble_eq_true rfl⟩, rfl, rfl⟩ (pl_glb (k := 3) (by decide)) rfl rfl rfl rfl (Nat.le_of_ble_eq_true rfl) dX7_feed_19 ⟨Nat.le_of_ble_eq_true rfl, Nat.le_of_ble_eq_true rfl⟩ rfl (fun H locs X => ?_)
    refine lv_aload_n hx hb dX7_feed_22 rfl (lv_at hl 0 rfl) ?_
    refine g_objr K X 4 (by decide) rfl q278 dX7_feed_23 ?_
    refine lv_iload_n hx hb dX7_feed_26 rfl (lv_at hl 2 rfl) ?_
    obtain ⟨x5, ex5, h0⟩ := ob_out h0
    obtain ⟨Gv6, eGv6, h0⟩ := lt_out h0
    have kx5 := m_X5_append l D ca ar ag n P Gv4 xs a2 x5 ex5 H.size
    rw [← eGv6] at kx5
    refine w_callV0 K X wC_fstx kx5 hl.1 1 q394 q395 q396 q21 q397 hv_X5_append ⟨⟨Nat.le_of_ble_eq_true rfl, Nat.le_of_ble_eq_true rfl⟩, rfl, rfl⟩ (pl_glb (k := 3) (by decide)) rfl rfl rfl rfl (Nat.le_of_ble_eq_true rfl) dX7_feed_27 ⟨Nat.le_of_ble_eq_true rfl, Nat.le_of_ble_eq_true rfl⟩ rfl (fun H locs X => ?_)
    refine lv_aload_n hx hb dX7_feed_30 rfl (lv_at hl 0 rfl) ?_
    refine g_objr K X 4 (by decide) rfl q278 dX7_feed_31 ?_
    refine lv_iload_n hx hb dX7_feed_34 rfl (lv_at hl 3 rfl) ?_
    obtain ⟨x7, ex7, h0⟩ := ob_out h0
    obtain ⟨Gv8, eGv8, h0⟩ := lt_out h0
    have kx7 := m_X5_append l D ca ar ag n P Gv6 xs a3 x7 ex7 H.size
    rw [← eGv8] at kx7
    refine w_callV0 K X wC_fstx kx7 hl.1 1 q394 q395 q396 q21 q397 hv_X5_append ⟨⟨Nat.le_of_ble_eq_true rfl, Nat.le_of_ble_eq_true rfl⟩, rfl, rfl⟩ (pl_glb (k := 3) (by decide)) rfl rfl rfl rfl (Nat.le_of_ble_eq_true rfl) dX7_feed_35 ⟨Nat.le_of_ble_eq_true rfl, Nat.le_of_ble_eq_true rfl⟩ rfl (fun H locs X => ?_)
    refine lv_aload_n hx hb dX7_feed_38 rfl (lv_at hl 0 rfl) ?_
    refine g_objr K X 4 (by decide) rfl q278 dX7_feed_39 ?_
    refine lv_iload hx hb dX7_feed_42 (lv_at hl 4 rfl) ?_
    obtain ⟨x9, ex9, h0⟩ := ob_out h0
    obtain ⟨Gv10, eGv10, h0⟩ := lt_out h0
    have kx9 := m_X5_append l D ca ar ag n P Gv8 xs a4 x9 ex9 H.size
    rw [← eGv10] at kx9
    refine w_callV0 K X wC_fstx kx9 hl.1 1 q394 q395 q396 q21 q397 hv_X5_append ⟨⟨Nat.le_of_ble_eq_true rfl, Nat.le_of_ble_eq_true rfl⟩, rfl, rfl⟩ (pl_glb (k := 3) (by decide)) rfl rfl rfl rfl (Nat.le_of_ble_eq_true rfl) dX7_feed_44 ⟨Nat.le_of_ble_eq_true rfl, Nat.le_of_ble_eq_true rfl⟩ rfl (fun H locs X => ?_)
    refine lv_aload_n hx hb dX7_feed_47 rfl (lv_at hl 0 rfl) ?_
    refine g_objr K X 4 (by decide) rfl q278 dX7_feed_48 ?_
    refine lv_iload hx hb dX7_feed_51 (lv_at hl 5 rfl) ?_
    obtain ⟨x11, ex11, h0⟩ := ob_out h0
    obtain ⟨Gv12, eGv12, h0⟩ := lt_out h0
    have kx11 := m_X5_append l D ca ar ag n P Gv10 xs a5 x11 ex11 H.size
    rw [← eGv12] at kx11
    refine w_callV0 K X wC_fstx kx11 hl.1 1 q394 q395 q396 q21 q397 hv_X5_append ⟨⟨Nat.le_of_ble_eq_true rfl, Nat.le_of_ble_eq_true rfl⟩, rfl, rfl⟩ (pl_glb (k := 3) (by decide)) rfl rfl rfl rfl (Nat.le_of_ble_eq_true rfl) dX7_feed_53 ⟨Nat.le_of_ble_eq_true rfl, Nat.le_of_ble_eq_true rfl⟩ rfl (fun H locs X => ?_)
    refine lv_aload_n hx hb dX7_feed_56 rfl (lv_at hl 0 rfl) ?_
    refine g_objr K X 4 (by decide) rfl q278 dX7_feed_57 ?_
    refine g_toki K X 1 (by decide) q201 dX7_feed_60 ?_
    have h0 := Option.some.inj h0
    obtain ⟨q_0, q_1⟩ := Prod.mk.inj h0
    subst q_0
    subst q_1
    subst hQ
    exact w_iret K hr0 X wC_fstx hsz dX7_feed_63
  · have h0 := if_f c2 h0
    refine lv_iconst (v := (-1)) hx hb dX7_feed_12 (by decide) ?_
    have h0 := Option.some.inj h0
    obtain ⟨q_0, q_1⟩ := Prod.mk.inj h0
    subst q_0
    subst q_1
    subst hQ
    exact w_iret K hr0 X wC_fstx hsz dX7_feed_13
-- X7_requireWithin
def b_X7_requireWithin_10   : Option Unit :=
  none
def f_X7_requireWithin (a1 : Int32) (a2 : Int32) (a3 : Int32) : Option Unit :=
  if a1 < a2 then
    b_X7_requireWithin_10
  else
    if a1 ≤ a3 then
      some ()
    else
      b_X7_requireWithin_10
abbrev rm_X7_requireWithin : Room := { frames := 0, cells := 0, slots := 0, locals := 0 }
set_option maxRecDepth 100000 in
set_option maxHeartbeats 4000000 in
theorem m_X7_requireWithin (l : Launch) (D : va_G) (ca : Nat → ClassId) (z : ZG) (ws : va_W) (a1 : Int32) (a2 : Int32) (a3 : Int32)  (h0 : f_X7_requireWithin a1 a2 a3 = some ()) (sz : Nat) : Met l yX7_requireWithin (ws_ yX7_requireWithin cX7_requireWithin 3 none) rm_X7_requireWithin (PCz z D ca (ws) sz [.int a1, .int a2, .int a3]) (QMw D (ws) (ws) sz none) 0 0 (AL (ws) sz) := by
  refine met_z (by decide +kernel) (Nat.le_of_ble_eq_true rfl) (fun p e s m args below meth c K hr0 hZ X hsz ls hl => ?_)
  have K : MC D ca p s m args meth c cX7_requireWithin 3 RX7 := K
  have hx := K.1
  have hb := K.2.1
  have hl : lv_has ls 3 [(0, .int a1), (1, .int a2), (2, .int a3)] := hl
  generalize hQ : MQ below _ args s 0 0 _ = Q
  unfold f_X7_requireWithin at h0
  suffices Z : ∀ (H : Heap) (locs : List Loc) (X : RW D (ws) s.heap H locs), W p l e rm_X7_requireWithin s m args below meth c H locs 0 0 Q (F0 m 0 ls []) from Z _ _ X
  intro H locs X
  have J10 : ∀  (H : Heap) (locs : List Loc) (X : RW D (ws) s.heap H locs) (ls : Array Slot) (hl : lv_has ls 3 []) (h0 : b_X7_requireWithin_10 = some ()), W p l e rm_X7_requireWithin s m args below meth c H locs 0 0 Q (F0 m 10 ls []) := by
    intro  H locs X ls hl h0
    unfold b_X7_requireWithin_10 at h0
    cases h0
  refine lv_iload_n hx hb dX7_requireWithin_0 rfl (lv_at hl 0 rfl) ?_
  refine lv_iload_n hx hb dX7_requireWithin_1 rfl (lv_at hl 1 rfl) ?_
  refine lv_icmp_lt (tgt := 10) hx hb dX7_requireWithin_2 (by decide) (fun c1 => ?_) (fun c1 => ?_)
  · have h0 := if_t c1 h0
    exact J10  H locs X ls (lv_sub hl [] rfl) h0
  · have h0 := if_f c1 h0
    refine lv_iload_n hx hb dX7_requireWithin_5 rfl (lv_at hl 0 rfl) ?_
    refine lv_iload_n hx hb dX7_requireWithin_6 rfl (lv_at hl 2 rfl) ?_
    refine lv_icmp_le (tgt := 21) hx hb dX7_requireWithin_7 (by decide) (fun c2 => ?_) (fun c2 => ?_)
    · have h0 := if_t c2 h0
      have h0 := Option.some.inj h0
      subst hQ
      exact w_vret K hr0 X rfl hsz dX7_requireWithin_21
    · have h0 := if_f c2 h0
      exact J10  H locs X ls (lv_sub hl [] rfl) h0
-- X7_load
def f_X7_load (n : Nat) (P : RowsS) (G : GlbS) (a1 : Int32) : Option (Int32 × RowsS × GlbS) :=
  ob (f_X7_requireWithin a1 0 (G 3 1)) fun x1 =>
  ob (f_X5_begin n G a1) fun x2 =>
  lt (x2) fun Gv3 =>
  ob (f_X4_read n (P 1) Gv3) fun x4 =>
  lt (va_up P 1 x4.1) fun Pv5 =>
  lt (x4.2) fun Gv6 =>
  lt (f_X5_empty Gv6) fun x7 =>
  lt (x7) fun Gv8 =>
  if (Gv8 3 7) = 0 then
    ob (f_X3_copyFrom n (Pv5 0) (Pv5 1)) fun x10 =>
    lt (va_up Pv5 0 x10) fun Pv11 =>
    ob (f_X3_settle n (Pv11 0)) fun x12 =>
    lt (va_up Pv11 0 x12.2) fun Pv13 =>
    lt (f_X0_clear Pv13 Gv8) fun x14 =>
    lt (x14) fun Gv15 =>
    lt (sg Gv15 0 6 0) fun Gv16 =>
    ob (f_X3_countInState n (Pv13 0) 0) fun x17 =>
    some (x17, Pv13, Gv16)
  else
    some (((-10) - (Gv8 3 7)), Pv5, Gv8)
abbrev rm_X7_load : Room := { frames := 8, cells := 1, slots := 2, locals := 200 }
set_option maxRecDepth 100000 in
set_option maxHeartbeats 4000000 in
theorem m_X7_load (l : Launch) (D : va_G) (ca : Nat → ClassId) (ar : Nat → Nat → Nat) (ag : Nat → Nat) (z : ZG) (n : Nat) (P : RowsS) (G : GlbS) (xs : va_W) (a1 : Int32) (res : Int32) (P' : RowsS) (G' : GlbS) (h0 : f_X7_load n P G a1 = some (res, P', G')) (sz : Nat) : Met l yX7_load (ws_ yX7_load cX7_load 3 (some .int)) rm_X7_load (PCz z D ca (wC ar ag ca P G ++ xs) sz [.ref (ag 0), .int a1]) (QMw D (wC ar ag ca P G ++ xs) (wC ar ag ca (P') (G') ++ xs) sz (some (.int res))) 1 2 (AL (wC ar ag ca P G ++ xs) sz) := by
  refine met_z (by decide +kernel) (Nat.le_of_ble_eq_true rfl) (fun p e s m args below meth c K hr0 hZ X hsz ls hl => ?_)
  have K : MC D ca p s m args meth c cX7_load 3 RX7 := K
  have hx := K.1
  have hb := K.2.1
  have hl : lv_has ls 3 [(0, .ref (ag 0)), (1, .int a1)] := hl
  generalize hQ : MQ below _ args s 1 2 _ = Q
  unfold f_X7_load at h0
  suffices Z : ∀ (H : Heap) (locs : List Loc) (X : RW D (wC ar ag ca P G ++ xs) s.heap H locs), W p l e rm_X7_load s m args below meth c H locs 0 0 Q (F0 m 0 ls []) from Z _ _ X
  intro H locs X
  refine lv_iload_n hx hb dX7_load_0 rfl (lv_at hl 1 rfl) ?_
  refine lv_iconst (v := 0) hx hb dX7_load_1 (by decide) ?_
  refine lv_aload_n hx hb dX7_load_2 rfl (lv_at hl 0 rfl) ?_
  refine g_objr K X 4 (by decide) rfl q278 dX7_load_3 ?_
  refine g_toki K X 1 (by decide) q201 dX7_load_6 ?_
  obtain ⟨x1, ex1, h0⟩ := ob_out h0
  have kx1 := m_X7_requireWithin l D ca z (wC ar ag ca P G ++ xs) a1 0 (G 3 1)  ex1 H.size
  refine z_callS K hZ X wC_fstx wC_fstx kx1 hl.1 3 q402 q403 q16 q404 hs_X7_requireWithin ⟨⟨Nat.le_of_ble_eq_true rfl, Nat.le_of_ble_eq_true rfl⟩, rfl, rfl⟩ rfl rfl (Nat.le_of_ble_eq_true rfl) dX7_load_9 ⟨Nat.le_of_ble_eq_true rfl, Nat.le_of_ble_eq_true rfl⟩ rfl (fun H locs X => ?_)
  refine lv_aload_n hx hb dX7_load_12 rfl (lv_at hl 0 rfl) ?_
  refine g_objr K X 4 (by decide) rfl q278 dX7_load_13 ?_
  refine lv_iload_n hx hb dX7_load_16 rfl (lv_at hl 1 rfl) ?_
  obtain ⟨x2, ex2, h0⟩ := ob_out h0
  obtain ⟨Gv3, eGv3, h0⟩ := lt_out h0
  have kx2 := m_X5_begin l D ca ar ag n P G xs a1 x2 ex2 H.size
  rw [← eGv3] at kx2
  refine w_callV0 K X wC_fstx kx2 hl.1 1 q471 q472 q473 q21 q474 hv_X5_begin ⟨⟨Nat.le_of_ble_eq_true rfl, Nat.le_of_ble_eq_true rfl⟩, rfl, rfl⟩ (pl_glb (k := 3) (by decide)) rfl rfl rfl rfl (Nat.le_of_ble_eq_true rfl) dX7_load_17 ⟨Nat.le_of_ble_eq_true rfl, Nat.le_of_ble_eq_true rfl⟩ rfl (fun H locs X => ?_)
  refine z_newg K hZ X wC_fstx iX4 tyX4 tyX4_ok q493 q494 q33 (ci := 6) rfl (fs := [.null, .null]) (fun j hj => by rcases j with _ | _ | j <;> first | rfl | omega) (Nat.le_of_ble_eq_true rfl) (Nat.le_of_ble_eq_true rfl) dX7_load_20 (fun gq H hdr hzz X => ?_)
  refine lv_dup hx hb dX7_load_23 rfl ?_
  refine lv_aload_n hx hb dX7_load_24 rfl (lv_at hl 0 rfl) ?_
  refine g_objr K X 4 (by decide) rfl q278 dX7_load_25 ?_
  refine lv_aload_n hx hb dX7_load_28 rfl (lv_at hl 0 rfl) ?_
  refine g_objr K X 1 (by decide) rfl q275 dX7_load_29 ?_
  have kI := m_X4_init l D ca ar ag P Gv3 xs gq (ag 3) (ar 1 0) H.size
  refine w_callI K X ctor_fst kI hl.1 2 q495 q496 q33 q497 rfl hs_X4_init ⟨⟨Nat.le_of_ble_eq_true rfl, Nat.le_of_ble_eq_true rfl⟩, rfl, rfl⟩ rfl rfl (Nat.le_of_ble_eq_true rfl) dX7_load_32 ⟨Nat.le_of_ble_eq_true rfl, Nat.le_of_ble_eq_true rfl⟩ (fun H locs X => ?_)
  have hg : (xs ++ [(gq, .inr (6, [.ref (ag 3), .ref (ar 1 0)]))] : va_W)[xs.length]? = some (gq, .inr (6, [.ref (ag 3), .ref (ar 1 0)])) := ctor_at
  have hZ := hzz [.ref (ag 3), .ref (ar 1 0)]
  have hdr := fun P G H locs => hdr P G [.ref (ag 3), .ref (ar 1 0)] H locs
  generalize xs ++ [(gq, .inr (6, [.ref (ag 3), .ref (ar 1 0)]))] = xs2 at X hg hZ hdr
  refine lv_astore_n (lv' := [(2, .ref gq), (0, .ref (ag 0)), (1, .int a1)]) hx hb dX7_load_35 rfl hl (by decide) rfl (fun ls hl => ?_)
  refine lv_aload_n hx hb dX7_load_36 rfl (lv_at hl 0 rfl) ?_
  obtain ⟨x4, ex4, h0⟩ := ob_out h0
  obtain ⟨Pv5, ePv5, h0⟩ := lt_out h0
  obtain ⟨Gv6, eGv6, h0⟩ := lt_out h0
  have kx4 := m_X4_read l D ca ar ag z n P 1 (P 1) Gv3 xs2 (by decide) gq xs.length hg x4.1 x4.2 ex4 H.size
  rw [up_self, ← ePv5, ← eGv6] at kx4
  refine z_callV K hZ X wC_fstx wC_fstx kx4 hl.1 0 q506 q507 q508 q33 q509 hv_X4_read ⟨⟨Nat.le_of_ble_eq_true rfl, Nat.le_of_ble_eq_true rfl⟩, rfl, rfl⟩ (z_recvw K X (pl_xs.trans hg) rfl rfl) rfl rfl (Nat.le_of_ble_eq_true rfl) dX7_load_37 ⟨Nat.le_of_ble_eq_true rfl, Nat.le_of_ble_eq_true rfl⟩ rfl (fun H locs X => ?_)
  refine lv_aload_n hx hb dX7_load_40 rfl (lv_at hl 1 rfl) ?_
  refine g_objr K X 4 (by decide) rfl q278 dX7_load_41 ?_
  obtain ⟨x7, ex7, h0⟩ := lt_out h0
  obtain ⟨Gv8, eGv8, h0⟩ := lt_out h0
  have kx7 := m_X5_empty l D ca ar ag Pv5 Gv6 xs2 x7 ex7.symm H.size
  rw [← eGv8] at kx7
  refine w_callV0 K X wC_fstx kx7 hl.1 0 q592 q593 q594 q21 q595 hv_X5_empty ⟨⟨Nat.le_of_ble_eq_true rfl, Nat.le_of_ble_eq_true rfl⟩, rfl, rfl⟩ (pl_glb (k := 3) (by decide)) rfl rfl rfl rfl (Nat.le_of_ble_eq_true rfl) dX7_load_44 ⟨Nat.le_of_ble_eq_true rfl, Nat.le_of_ble_eq_true rfl⟩ rfl (fun H locs X => ?_)
  refine lv_aload_n hx hb dX7_load_47 rfl (lv_at hl 1 rfl) ?_
  refine g_objr K X 4 (by decide) rfl q278 dX7_load_48 ?_
  refine g_toki K X 7 (by decide) q207 dX7_load_51 ?_
  refine lv_if_eq (tgt := 68) hx hb dX7_load_54 (by decide) (fun c9 => ?_) (fun c9 => ?_)
  · have h0 := if_t c9 h0
    refine lv_aload_n hx hb dX7_load_68 rfl (lv_at hl 1 rfl) ?_
    refine g_objr K X 0 (by decide) rfl q274 dX7_load_69 ?_
    refine lv_aload_n hx hb dX7_load_72 rfl (lv_at hl 1 rfl) ?_
    refine g_objr K X 1 (by decide) rfl q275 dX7_load_73 ?_
    obtain ⟨x10, ex10, h0⟩ := ob_out h0
    obtain ⟨Pv11, ePv11, h0⟩ := lt_out h0
    have kx10 := mC_X3_copyFrom l D ca ar ag n Pv5 0 Gv8 xs2 (by decide) 1 (by decide) (by decide) x10 ex10 H.size
    rw [← ePv11] at kx10
    refine w_callV0 K X wC_fstx kx10 hl.1 1 q596 q597 q598 q17 q599 hv_X3_copyFrom ⟨⟨Nat.le_of_ble_eq_true rfl, Nat.le_of_ble_eq_true rfl⟩, rfl, rfl⟩ (pl_rowo (by decide)) rfl rfl rfl rfl (Nat.le_of_ble_eq_true rfl) dX7_load_76 ⟨Nat.le_of_ble_eq_true rfl, Nat.le_of_ble_eq_true rfl⟩ rfl (fun H locs X => ?_)
    refine lv_aload_n hx hb dX7_load_79 rfl (lv_at hl 1 rfl) ?_
    refine g_objr K X 0 (by decide) rfl q274 dX7_load_80 ?_
    obtain ⟨x12, ex12, h0⟩ := ob_out h0
    obtain ⟨Pv13, ePv13, h0⟩ := lt_out h0
    have kx12 := mC_X3_settle l D ca ar ag n Pv11 0 Gv8 xs2 (by decide) x12.1 x12.2 ex12 H.size
    rw [← ePv13] at kx12
    refine w_callV0 K X wC_fstx kx12 hl.1 0 q614 q615 q616 q17 q617 hv_X3_settle ⟨⟨Nat.le_of_ble_eq_true rfl, Nat.le_of_ble_eq_true rfl⟩, rfl, rfl⟩ (pl_rowo (by decide)) rfl rfl rfl rfl (Nat.le_of_ble_eq_true rfl) dX7_load_83 ⟨Nat.le_of_ble_eq_true rfl, Nat.le_of_ble_eq_true rfl⟩ rfl (fun H locs X => ?_)
    refine lv_pop hx hb dX7_load_86 rfl ?_
    refine lv_aload_n hx hb dX7_load_87 rfl (lv_at hl 1 rfl) ?_
    refine g_objr K X 3 (by decide) rfl q277 dX7_load_88 ?_
    obtain ⟨x14, ex14, h0⟩ := lt_out h0
    obtain ⟨Gv15, eGv15, h0⟩ := lt_out h0
    have kx14 := m_X0_clear l D ca ar ag Pv13 Gv8 xs2 x14 ex14.symm H.size
    rw [← eGv15] at kx14
    refine w_callV0 K X wC_fstx kx14 hl.1 0 q668 q669 q670 q20 q671 hv_X0_clear ⟨⟨Nat.le_of_ble_eq_true rfl, Nat.le_of_ble_eq_true rfl⟩, rfl, rfl⟩ (pl_glb (k := 1) (by decide)) rfl rfl rfl rfl (Nat.le_of_ble_eq_true rfl) dX7_load_91 ⟨Nat.le_of_ble_eq_true rfl, Nat.le_of_ble_eq_true rfl⟩ rfl (fun H locs X => ?_)
    refine lv_aload_n hx hb dX7_load_94 rfl (lv_at hl 1 rfl) ?_
    refine lv_iconst (v := 0) hx hb dX7_load_95 (by decide) ?_
    obtain ⟨Gv16, eGv16, h0⟩ := lt_out h0
    refine p_objz K X (by decide) eGv16 q280 dX7_load_96 (fun H locs X => ?_)
    refine lv_aload_n hx hb dX7_load_99 rfl (lv_at hl 1 rfl) ?_
    refine g_objr K X 0 (by decide) rfl q274 dX7_load_100 ?_
    refine lv_iconst (v := 0) hx hb dX7_load_103 (by decide) ?_
    obtain ⟨x17, ex17, h0⟩ := ob_out h0
    have kx17 := mC_X3_countInState l D ca ar ag n Pv13 0 Gv16 xs2 (by decide) 0 x17 ex17 H.size
    refine w_callV0 K X wC_fstx kx17 hl.1 1 q672 q673 q674 q17 q675 hv_X3_countInState ⟨⟨Nat.le_of_ble_eq_true rfl, Nat.le_of_ble_eq_true rfl⟩, rfl, rfl⟩ (pl_rowo (by decide)) rfl rfl rfl rfl (Nat.le_of_ble_eq_true rfl) dX7_load_104 ⟨Nat.le_of_ble_eq_true rfl, Nat.le_of_ble_eq_true rfl⟩ rfl (fun H locs X => ?_)
    have h0 := Option.some.inj h0
    obtain ⟨q_0, h0⟩ := Prod.mk.inj h0
    obtain ⟨q_1, q_2⟩ := Prod.mk.inj h0
    subst q_0
    subst q_1
    subst q_2
    subst hQ
    exact w_iret K hr0 (hdr _ _ _ _ X) wC_fstx hsz dX7_load_107
  · have h0 := if_f c9 h0
    refine lv_bipush (v := (-10)) hx hb dX7_load_57 (by decide) ?_
    refine lv_aload_n hx hb dX7_load_59 rfl (lv_at hl 1 rfl) ?_
    refine g_objr K X 4 (by decide) rfl q278 dX7_load_60 ?_
    refine g_toki K X 7 (by decide) q207 dX7_load_63 ?_
    refine lv_isub hx hb dX7_load_66 ?_
    have h0 := Option.some.inj h0
    obtain ⟨q_0, h0⟩ := Prod.mk.inj h0
    obtain ⟨q_1, q_2⟩ := Prod.mk.inj h0
    subst q_0
    subst q_1
    subst q_2
    subst hQ
    exact w_iret K hr0 (hdr _ _ _ _ X) wC_fstx hsz dX7_load_67
-- X7_errorPosition
def f_X7_errorPosition (P : RowsS) (G : GlbS) : Int32 :=
  (G 3 8)
abbrev rm_X7_errorPosition : Room := { frames := 0, cells := 0, slots := 0, locals := 0 }
set_option maxRecDepth 100000 in
set_option maxHeartbeats 4000000 in
theorem m_X7_errorPosition (l : Launch) (D : va_G) (ca : Nat → ClassId) (ar : Nat → Nat → Nat) (ag : Nat → Nat) (P : RowsS) (G : GlbS) (xs : va_W) (res : Int32) (h0 : f_X7_errorPosition P G = res) (sz : Nat) : Met l yX7_errorPosition (ws_ yX7_errorPosition cX7_errorPosition 1 (some .int)) rm_X7_errorPosition (PCw D ca (wC ar ag ca P G ++ xs) sz [.ref (ag 0)]) (QMw D (wC ar ag ca P G ++ xs) (wC ar ag ca P G ++ xs) sz (some (.int res))) 0 0 (AL (wC ar ag ca P G ++ xs) sz) := by
  refine met_of (by decide) (Nat.le_of_ble_eq_true rfl) (fun p e s m args below meth c K hr0 X hsz ls hl => ?_)
  have K : MC D ca p s m args meth c cX7_errorPosition 1 RX7 := K
  have hx := K.1
  have hb := K.2.1
  have hl : lv_has ls 1 [(0, .ref (ag 0))] := hl
  generalize hQ : MQ below _ args s 0 0 _ = Q
  unfold f_X7_errorPosition at h0
  suffices Z : ∀ (H : Heap) (locs : List Loc) (X : RW D (wC ar ag ca P G ++ xs) s.heap H locs), W p l e rm_X7_errorPosition s m args below meth c H locs 0 0 Q (F0 m 0 ls []) from Z _ _ X
  intro H locs X
  refine lv_aload_n hx hb dX7_errorPosition_0 rfl (lv_at hl 0 rfl) ?_
  refine g_objr K X 4 (by decide) rfl q278 dX7_errorPosition_1 ?_
  refine g_toki K X 8 (by decide) q210 dX7_errorPosition_4 ?_
  subst h0
  subst hQ
  exact w_iret K hr0 X wC_fstx hsz dX7_errorPosition_7
-- X7_size
def f_X7_size (n : Nat) (P : RowsS) (G : GlbS) (a1 : Int32) : Option Int32 :=
  if a1 = 0 then
    some ((P 0).1 0 0)
  else if a1 = 1 then
    some ((P 0).1 0 1)
  else if a1 = 2 then
    some ((P 0).1 0 2)
  else if a1 = 3 then
    ob (f_X3_countInState n (P 0) 0) fun x5 =>
    some x5
  else if a1 = 4 then
    ob (f_X3_countInState n (P 0) 1) fun x7 =>
    some x7
  else if a1 = 5 then
    ob (f_X3_countInState n (P 0) 2) fun x9 =>
    some x9
  else if a1 = 6 then
    ob (f_X3_countInLeg n (P 0) 0) fun x11 =>
    some x11
  else if a1 = 7 then
    ob (f_X3_countInLeg n (P 0) 1) fun x13 =>
    some x13
  else none
abbrev rm_X7_size : Room := { frames := 2, cells := 0, slots := 0, locals := 44 }
set_option maxRecDepth 100000 in
set_option maxHeartbeats 4000000 in
theorem m_X7_size (l : Launch) (D : va_G) (ca : Nat → ClassId) (ar : Nat → Nat → Nat) (ag : Nat → Nat) (z : ZG) (n : Nat) (P : RowsS) (G : GlbS) (xs : va_W) (a1 : Int32) (res : Int32) (h0 : f_X7_size n P G a1 = some res) (sz : Nat) : Met l yX7_size (ws_ yX7_size cX7_size 2 (some .int)) rm_X7_size (PCz z D ca (wC ar ag ca P G ++ xs) sz [.ref (ag 0), .int a1]) (QMw D (wC ar ag ca P G ++ xs) (wC ar ag ca P G ++ xs) sz (some (.int res))) 0 0 (AL (wC ar ag ca P G ++ xs) sz) := by
  refine met_z (by decide +kernel) (Nat.le_of_ble_eq_true rfl) (fun p e s m args below meth c K hr0 hZ X hsz ls hl => ?_)
  have K : MC D ca p s m args meth c cX7_size 2 RX7 := K
  have hx := K.1
  have hb := K.2.1
  have hl : lv_has ls 2 [(0, .ref (ag 0)), (1, .int a1)] := hl
  generalize hQ : MQ below _ args s 0 0 _ = Q
  unfold f_X7_size at h0
  suffices Z : ∀ (H : Heap) (locs : List Loc) (X : RW D (wC ar ag ca P G ++ xs) s.heap H locs), W p l e rm_X7_size s m args below meth c H locs 0 0 Q (F0 m 0 ls []) from Z _ _ X
  intro H locs X
  refine lv_iload_n hx hb dX7_size_0 rfl (lv_at hl 1 rfl) ?_
  by_cases c1 : a1 = 0
  · have h0 := if_t c1 h0
    refine lv_tableIn (off := 47) (tgt := 48) hx hb dX7_size_1 (by rw [c1]; decide) (by rw [c1]; decide) (by rw [c1]; decide) (by decide) ?_
    refine lv_aload_n hx hb dX7_size_48 rfl (lv_at hl 0 rfl) ?_
    refine g_objr K X 0 (by decide) rfl q274 dX7_size_49 ?_
    refine g_rowi K X (by decide) rfl 0 (by decide) q146 dX7_size_52 ?_
    have h0 := Option.some.inj h0
    subst h0
    subst hQ
    exact w_iret K hr0 X wC_fstx hsz dX7_size_55
  have h0 := if_f c1 h0
  by_cases c2 : a1 = 1
  · have h0 := if_t c2 h0
    refine lv_tableIn (off := 55) (tgt := 56) hx hb dX7_size_1 (by rw [c2]; decide) (by rw [c2]; decide) (by rw [c2]; decide) (by decide) ?_
    refine lv_aload_n hx hb dX7_size_56 rfl (lv_at hl 0 rfl) ?_
    refine g_objr K X 0 (by decide) rfl q274 dX7_size_57 ?_
    refine g_rowi K X (by decide) rfl 1 (by decide) q148 dX7_size_60 ?_
    have h0 := Option.some.inj h0
    subst h0
    subst hQ
    exact w_iret K hr0 X wC_fstx hsz dX7_size_63
  have h0 := if_f c2 h0
  by_cases c3 : a1 = 2
  · have h0 := if_t c3 h0
    refine lv_tableIn (off := 63) (tgt := 64) hx hb dX7_size_1 (by rw [c3]; decide) (by rw [c3]; decide) (by rw [c3]; decide) (by decide) ?_
    refine lv_aload_n hx hb dX7_size_64 rfl (lv_at hl 0 rfl) ?_
    refine g_objr K X 0 (by decide) rfl q274 dX7_size_65 ?_
    refine g_rowi K X (by decide) rfl 2 (by decide) q151 dX7_size_68 ?_
    have h0 := Option.some.inj h0
    subst h0
    subst hQ
    exact w_iret K hr0 X wC_fstx hsz dX7_size_71
  have h0 := if_f c3 h0
  by_cases c4 : a1 = 3
  · have h0 := if_t c4 h0
    refine lv_tableIn (off := 71) (tgt := 72) hx hb dX7_size_1 (by rw [c4]; decide) (by rw [c4]; decide) (by rw [c4]; decide) (by decide) ?_
    refine lv_aload_n hx hb dX7_size_72 rfl (lv_at hl 0 rfl) ?_
    refine g_objr K X 0 (by decide) rfl q274 dX7_size_73 ?_
    refine lv_iconst (v := 0) hx hb dX7_size_76 (by decide) ?_
    obtain ⟨x5, ex5, h0⟩ := ob_out h0
    have kx5 := mC_X3_countInState l D ca ar ag n P 0 G xs (by decide) 0 x5 ex5 H.size
    refine w_callV0 K X wC_fstx kx5 hl.1 1 q672 q673 q674 q17 q675 hv_X3_countInState ⟨⟨Nat.le_of_ble_eq_true rfl, Nat.le_of_ble_eq_true rfl⟩, rfl, rfl⟩ (pl_rowo (by decide)) rfl rfl rfl rfl (Nat.le_of_ble_eq_true rfl) dX7_size_77 ⟨Nat.le_of_ble_eq_true rfl, Nat.le_of_ble_eq_true rfl⟩ rfl (fun H locs X => ?_)
    have h0 := Option.some.inj h0
    subst h0
    subst hQ
    exact w_iret K hr0 X wC_fstx hsz dX7_size_80
  have h0 := if_f c4 h0
  by_cases c6 : a1 = 4
  · have h0 := if_t c6 h0
    refine lv_tableIn (off := 80) (tgt := 81) hx hb dX7_size_1 (by rw [c6]; decide) (by rw [c6]; decide) (by rw [c6]; decide) (by decide) ?_
    refine lv_aload_n hx hb dX7_size_81 rfl (lv_at hl 0 rfl) ?_
    refine g_objr K X 0 (by decide) rfl q274 dX7_size_82 ?_
    refine lv_iconst (v := 1) hx hb dX7_size_85 (by decide) ?_
    obtain ⟨x7, ex7, h0⟩ := ob_out h0
    have kx7 := mC_X3_countInState l D ca ar ag n P 0 G xs (by decide) 1 x7 ex7 H.size
    refine w_callV0 K X wC_fstx kx7 hl.1 1 q672 q673 q674 q17 q675 hv_X3_countInState ⟨⟨Nat.le_of_ble_eq_true rfl, Nat.le_of_ble_eq_true rfl⟩, rfl, rfl⟩ (pl_rowo (by decide)) rfl rfl rfl rfl (Nat.le_of_ble_eq_true rfl) dX7_size_86 ⟨Nat.le_of_ble_eq_true rfl, Nat.le_of_ble_eq_true rfl⟩ rfl (fun H locs X => ?_)
    have h0 := Option.some.inj h0
    subst h0
    subst hQ
    exact w_iret K hr0 X wC_fstx hsz dX7_size_89
  have h0 := if_f c6 h0
  by_cases c8 : a1 = 5
  · have h0 := if_t c8 h0
    refine lv_tableIn (off := 89) (tgt := 90) hx hb dX7_size_1 (by rw [c8]; decide) (by rw [c8]; decide) (by rw [c8]; decide) (by decide) ?_
    refine lv_aload_n hx hb dX7_size_90 rfl (lv_at hl 0 rfl) ?_
    refine g_objr K X 0 (by decide) rfl q274 dX7_size_91 ?_
    refine lv_iconst (v := 2) hx hb dX7_size_94 (by decide) ?_
    obtain ⟨x9, ex9, h0⟩ := ob_out h0
    have kx9 := mC_X3_countInState l D ca ar ag n P 0 G xs (by decide) 2 x9 ex9 H.size
    refine w_callV0 K X wC_fstx kx9 hl.1 1 q672 q673 q674 q17 q675 hv_X3_countInState ⟨⟨Nat.le_of_ble_eq_true rfl, Nat.le_of_ble_eq_true rfl⟩, rfl, rfl⟩ (pl_rowo (by decide)) rfl rfl rfl rfl (Nat.le_of_ble_eq_true rfl) dX7_size_95 ⟨Nat.le_of_ble_eq_true rfl, Nat.le_of_ble_eq_true rfl⟩ rfl (fun H locs X => ?_)
    have h0 := Option.some.inj h0
    subst h0
    subst hQ
    exact w_iret K hr0 X wC_fstx hsz dX7_size_98
  have h0 := if_f c8 h0
  by_cases c10 : a1 = 6
  · have h0 := if_t c10 h0
    refine lv_tableIn (off := 98) (tgt := 99) hx hb dX7_size_1 (by rw [c10]; decide) (by rw [c10]; decide) (by rw [c10]; decide) (by decide) ?_
    refine lv_aload_n hx hb dX7_size_99 rfl (lv_at hl 0 rfl) ?_
    refine g_objr K X 0 (by decide) rfl q274 dX7_size_100 ?_
    refine lv_iconst (v := 0) hx hb dX7_size_103 (by decide) ?_
    obtain ⟨x11, ex11, h0⟩ := ob_out h0
    have kx11 := mC_X3_countInLeg l D ca ar ag n P 0 G xs (by decide) 0 x11 ex11 H.size
    refine w_callV0 K X wC_fstx kx11 hl.1 1 q684 q685 q686 q17 q687 hv_X3_countInLeg ⟨⟨Nat.le_of_ble_eq_true rfl, Nat.le_of_ble_eq_true rfl⟩, rfl, rfl⟩ (pl_rowo (by decide)) rfl rfl rfl rfl (Nat.le_of_ble_eq_true rfl) dX7_size_104 ⟨Nat.le_of_ble_eq_true rfl, Nat.le_of_ble_eq_true rfl⟩ rfl (fun H locs X => ?_)
    have h0 := Option.some.inj h0
    subst h0
    subst hQ
    exact w_iret K hr0 X wC_fstx hsz dX7_size_107
  have h0 := if_f c10 h0
  by_cases c12 : a1 = 7
  · have h0 := if_t c12 h0
    refine lv_tableIn (off := 107) (tgt := 108) hx hb dX7_size_1 (by rw [c12]; decide) (by rw [c12]; decide) (by rw [c12]; decide) (by decide) ?_
    refine lv_aload_n hx hb dX7_size_108 rfl (lv_at hl 0 rfl) ?_
    refine g_objr K X 0 (by decide) rfl q274 dX7_size_109 ?_
    refine lv_iconst (v := 1) hx hb dX7_size_112 (by decide) ?_
    obtain ⟨x13, ex13, h0⟩ := ob_out h0
    have kx13 := mC_X3_countInLeg l D ca ar ag n P 0 G xs (by decide) 1 x13 ex13 H.size
    refine w_callV0 K X wC_fstx kx13 hl.1 1 q684 q685 q686 q17 q687 hv_X3_countInLeg ⟨⟨Nat.le_of_ble_eq_true rfl, Nat.le_of_ble_eq_true rfl⟩, rfl, rfl⟩ (pl_rowo (by decide)) rfl rfl rfl rfl (Nat.le_of_ble_eq_true rfl) dX7_size_113 ⟨Nat.le_of_ble_eq_true rfl, Nat.le_of_ble_eq_true rfl⟩ rfl (fun H locs X => ?_)
    have h0 := Option.some.inj h0
    subst h0
    subst hQ
    exact w_iret K hr0 X wC_fstx hsz dX7_size_116
  have h0 := if_f c12 h0
  refine lv_tableOut (tgt := 117) hx hb dX7_size_1 (by have gc1 := lv_neT (a := 0) c1 (by decide); have gc2 := lv_neT (a := 1) c2 (by decide); have gc3 := lv_neT (a := 2) c3 (by decide); have gc4 := lv_neT (a := 3) c4 (by decide); have gc6 := lv_neT (a := 4) c6 (by decide); have gc8 := lv_neT (a := 5) c8 (by decide); have gc10 := lv_neT (a := 6) c10 (by decide); have gc12 := lv_neT (a := 7) c12 (by decide); omega) (by decide) ?_
  cases h0
-- X7_requirePoint
def b_X7_requirePoint_15   : Option Unit :=
  none
def f_X7_requirePoint (P : RowsS) (G : GlbS) (a1 : Int32) : Option Unit :=
  if a1 < 0 then
    b_X7_requirePoint_15
  else
    if a1 < ((P 0).1 0 0) then
      some ()
    else
      b_X7_requirePoint_15
abbrev rm_X7_requirePoint : Room := { frames := 0, cells := 0, slots := 0, locals := 0 }
set_option maxRecDepth 100000 in
set_option maxHeartbeats 4000000 in
theorem m_X7_requirePoint (l : Launch) (D : va_G) (ca : Nat → ClassId) (ar : Nat → Nat → Nat) (ag : Nat → Nat) (z : ZG) (P : RowsS) (G : GlbS) (xs : va_W) (a1 : Int32)  (h0 : f_X7_requirePoint P G a1 = some ()) (sz : Nat) : Met l yX7_requirePoint (ws_ yX7_requirePoint cX7_requirePoint 2 none) rm_X7_requirePoint (PCz z D ca (wC ar ag ca P G ++ xs) sz [.ref (ag 0), .int a1]) (QMw D (wC ar ag ca P G ++ xs) (wC ar ag ca P G ++ xs) sz none) 0 0 (AL (wC ar ag ca P G ++ xs) sz) := by
  refine met_z (by decide +kernel) (Nat.le_of_ble_eq_true rfl) (fun p e s m args below meth c K hr0 hZ X hsz ls hl => ?_)
  have K : MC D ca p s m args meth c cX7_requirePoint 2 RX7 := K
  have hx := K.1
  have hb := K.2.1
  have hl : lv_has ls 2 [(0, .ref (ag 0)), (1, .int a1)] := hl
  generalize hQ : MQ below _ args s 0 0 _ = Q
  unfold f_X7_requirePoint at h0
  suffices Z : ∀ (H : Heap) (locs : List Loc) (X : RW D (wC ar ag ca P G ++ xs) s.heap H locs), W p l e rm_X7_requirePoint s m args below meth c H locs 0 0 Q (F0 m 0 ls []) from Z _ _ X
  intro H locs X
  have J15 : ∀  (H : Heap) (locs : List Loc) (X : RW D (wC ar ag ca P G ++ xs) s.heap H locs) (ls : Array Slot) (hl : lv_has ls 2 []) (h0 : b_X7_requirePoint_15 = some ()), W p l e rm_X7_requirePoint s m args below meth c H locs 0 0 Q (F0 m 15 ls []) := by
    intro  H locs X ls hl h0
    unfold b_X7_requirePoint_15 at h0
    cases h0
  refine lv_iload_n hx hb dX7_requirePoint_0 rfl (lv_at hl 1 rfl) ?_
  refine lv_if_lt (tgt := 15) hx hb dX7_requirePoint_1 (by decide) (fun c1 => ?_) (fun c1 => ?_)
  · have h0 := if_t c1 h0
    exact J15  H locs X ls (lv_sub hl [] rfl) h0
  · have h0 := if_f c1 h0
    refine lv_iload_n hx hb dX7_requirePoint_4 rfl (lv_at hl 1 rfl) ?_
    refine lv_aload_n hx hb dX7_requirePoint_5 rfl (lv_at hl 0 rfl) ?_
    refine g_objr K X 0 (by decide) rfl q274 dX7_requirePoint_6 ?_
    refine g_rowi K X (by decide) rfl 0 (by decide) q146 dX7_requirePoint_9 ?_
    refine lv_icmp_lt (tgt := 26) hx hb dX7_requirePoint_12 (by decide) (fun c2 => ?_) (fun c2 => ?_)
    · have h0 := if_t c2 h0
      have h0 := Option.some.inj h0
      subst hQ
      exact w_vret K hr0 X wC_fstx hsz dX7_requirePoint_26
    · have h0 := if_f c2 h0
      exact J15  H locs X ls (lv_sub hl [] rfl) h0
-- X7_pressure
def f_X7_pressure (P : RowsS) (G : GlbS) (a1 : Int32) : Option Int32 :=
  ob (f_X7_requirePoint P G a1) fun x1 =>
  lt (f_X3_pressureAt (P 0) a1) fun x2 =>
  some x2
abbrev rm_X7_pressure : Room := { frames := 1, cells := 0, slots := 0, locals := 21 }
set_option maxRecDepth 100000 in
set_option maxHeartbeats 4000000 in
theorem m_X7_pressure (l : Launch) (D : va_G) (ca : Nat → ClassId) (ar : Nat → Nat → Nat) (ag : Nat → Nat) (z : ZG) (P : RowsS) (G : GlbS) (xs : va_W) (a1 : Int32) (res : Int32) (h0 : f_X7_pressure P G a1 = some res) (sz : Nat) : Met l yX7_pressure (ws_ yX7_pressure cX7_pressure 2 (some .int)) rm_X7_pressure (PCz z D ca (wC ar ag ca P G ++ xs) sz [.ref (ag 0), .int a1]) (QMw D (wC ar ag ca P G ++ xs) (wC ar ag ca P G ++ xs) sz (some (.int res))) 0 0 (AL (wC ar ag ca P G ++ xs) sz) := by
  refine met_z (by decide +kernel) (Nat.le_of_ble_eq_true rfl) (fun p e s m args below meth c K hr0 hZ X hsz ls hl => ?_)
  have K : MC D ca p s m args meth c cX7_pressure 2 RX7 := K
  have hx := K.1
  have hb := K.2.1
  have hl : lv_has ls 2 [(0, .ref (ag 0)), (1, .int a1)] := hl
  generalize hQ : MQ below _ args s 0 0 _ = Q
  unfold f_X7_pressure at h0
  suffices Z : ∀ (H : Heap) (locs : List Loc) (X : RW D (wC ar ag ca P G ++ xs) s.heap H locs), W p l e rm_X7_pressure s m args below meth c H locs 0 0 Q (F0 m 0 ls []) from Z _ _ X
  intro H locs X
  refine lv_aload_n hx hb dX7_pressure_0 rfl (lv_at hl 0 rfl) ?_
  refine lv_iload_n hx hb dX7_pressure_1 rfl (lv_at hl 1 rfl) ?_
  obtain ⟨x1, ex1, h0⟩ := ob_out h0
  have kx1 := m_X7_requirePoint l D ca ar ag z P G xs a1  ex1 H.size
  refine z_callV K hZ X wC_fstx wC_fstx kx1 hl.1 1 q732 q734 q14 q16 q735 hv_X7_requirePoint ⟨⟨Nat.le_of_ble_eq_true rfl, Nat.le_of_ble_eq_true rfl⟩, rfl, rfl⟩ (z_recvw K X (pl_glb (k := 0) (by decide)) rfl rfl) rfl rfl (Nat.le_of_ble_eq_true rfl) dX7_pressure_2 ⟨Nat.le_of_ble_eq_true rfl, Nat.le_of_ble_eq_true rfl⟩ rfl (fun H locs X => ?_)
  refine lv_aload_n hx hb dX7_pressure_5 rfl (lv_at hl 0 rfl) ?_
  refine g_objr K X 0 (by decide) rfl q274 dX7_pressure_6 ?_
  refine lv_iload_n hx hb dX7_pressure_9 rfl (lv_at hl 1 rfl) ?_
  obtain ⟨x2, ex2, h0⟩ := lt_out h0
  have kx2 := mC_X3_pressureAt l D ca ar ag P 0 G xs (by decide) a1 x2 ex2.symm H.size
  refine w_callV0 K X wC_fstx kx2 hl.1 1 q737 q601 q602 q17 q603 hv_X3_pressureAt ⟨⟨Nat.le_of_ble_eq_true rfl, Nat.le_of_ble_eq_true rfl⟩, rfl, rfl⟩ (pl_rowo (by decide)) rfl rfl rfl rfl (Nat.le_of_ble_eq_true rfl) dX7_pressure_10 ⟨Nat.le_of_ble_eq_true rfl, Nat.le_of_ble_eq_true rfl⟩ rfl (fun H locs X => ?_)
  have h0 := Option.some.inj h0
  subst h0
  subst hQ
  exact w_iret K hr0 X wC_fstx hsz dX7_pressure_13
-- X7_requireLeg
def f_X7_requireLeg (a1 : Int32) : Option Unit :=
  if a1 = 0 then
    some ()
  else
    if a1 = 1 then
      some ()
    else
      none
abbrev rm_X7_requireLeg : Room := { frames := 0, cells := 0, slots := 0, locals := 0 }
set_option maxRecDepth 100000 in
set_option maxHeartbeats 4000000 in
theorem m_X7_requireLeg (l : Launch) (D : va_G) (ca : Nat → ClassId) (z : ZG) (ws : va_W) (a1 : Int32)  (h0 : f_X7_requireLeg a1 = some ()) (sz : Nat) : Met l yX7_requireLeg (ws_ yX7_requireLeg cX7_requireLeg 1 none) rm_X7_requireLeg (PCz z D ca (ws) sz [.int a1]) (QMw D (ws) (ws) sz none) 0 0 (AL (ws) sz) := by
  refine met_z (by decide +kernel) (Nat.le_of_ble_eq_true rfl) (fun p e s m args below meth c K hr0 hZ X hsz ls hl => ?_)
  have K : MC D ca p s m args meth c cX7_requireLeg 1 RX7 := K
  have hx := K.1
  have hb := K.2.1
  have hl : lv_has ls 1 [(0, .int a1)] := hl
  generalize hQ : MQ below _ args s 0 0 _ = Q
  unfold f_X7_requireLeg at h0
  suffices Z : ∀ (H : Heap) (locs : List Loc) (X : RW D (ws) s.heap H locs), W p l e rm_X7_requireLeg s m args below meth c H locs 0 0 Q (F0 m 0 ls []) from Z _ _ X
  intro H locs X
  refine lv_iload_n hx hb dX7_requireLeg_0 rfl (lv_at hl 0 rfl) ?_
  refine lv_if_eq (tgt := 20) hx hb dX7_requireLeg_1 (by decide) (fun c1 => ?_) (fun c1 => ?_)
  · have h0 := if_t c1 h0
    have h0 := Option.some.inj h0
    subst hQ
    exact w_vret K hr0 X rfl hsz dX7_requireLeg_20
  · have h0 := if_f c1 h0
    refine lv_iload_n hx hb dX7_requireLeg_4 rfl (lv_at hl 0 rfl) ?_
    refine lv_iconst (v := 1) hx hb dX7_requireLeg_5 (by decide) ?_
    refine lv_icmp_eq (tgt := 20) hx hb dX7_requireLeg_6 (by decide) (fun c2 => ?_) (fun c2 => ?_)
    · have h0 := if_t c2 h0
      have h0 := Option.some.inj h0
      subst hQ
      exact w_vret K hr0 X rfl hsz dX7_requireLeg_20
    · have h0 := if_f c2 h0
      cases h0
-- X7_leg
def f_X7_leg (P : RowsS) (G : GlbS) (a1 : Int32) (a2 : Int32) : Option Int32 :=
  ob (f_X7_requireLeg a1) fun x1 =>
  lt (f_X3_legAt (P 0) a1) fun x2 =>
  lt (x2) fun j3 =>
  if a2 = 0 then
    some ((P 0).1 (j3 + 2) 0)
  else if a2 = 1 then
    some ((P 0).1 (j3 + 2) 1)
  else if a2 = 2 then
    some ((P 0).1 (j3 + 2) 2)
  else if a2 = 3 then
    some (((P 0).2 (j3 + 2) 6).toInt32)
  else none
abbrev rm_X7_leg : Room := { frames := 1, cells := 0, slots := 0, locals := 21 }
set_option maxRecDepth 100000 in
set_option maxHeartbeats 4000000 in
theorem m_X7_leg (l : Launch) (D : va_G) (ca : Nat → ClassId) (ar : Nat → Nat → Nat) (ag : Nat → Nat) (z : ZG) (P : RowsS) (G : GlbS) (xs : va_W) (a1 : Int32) (a2 : Int32) (res : Int32) (h0 : f_X7_leg P G a1 a2 = some res) (sz : Nat) : Met l yX7_leg (ws_ yX7_leg cX7_leg 4 (some .int)) rm_X7_leg (PCz z D ca (wC ar ag ca P G ++ xs) sz [.ref (ag 0), .int a1, .int a2]) (QMw D (wC ar ag ca P G ++ xs) (wC ar ag ca P G ++ xs) sz (some (.int res))) 0 0 (AL (wC ar ag ca P G ++ xs) sz) := by
  refine met_z (by decide +kernel) (Nat.le_of_ble_eq_true rfl) (fun p e s m args below meth c K hr0 hZ X hsz ls hl => ?_)
  have K : MC D ca p s m args meth c cX7_leg 4 RX7 := K
  have hx := K.1
  have hb := K.2.1
  have hl : lv_has ls 4 [(0, .ref (ag 0)), (1, .int a1), (2, .int a2)] := hl
  generalize hQ : MQ below _ args s 0 0 _ = Q
  unfold f_X7_leg at h0
  suffices Z : ∀ (H : Heap) (locs : List Loc) (X : RW D (wC ar ag ca P G ++ xs) s.heap H locs), W p l e rm_X7_leg s m args below meth c H locs 0 0 Q (F0 m 0 ls []) from Z _ _ X
  intro H locs X
  refine lv_iload_n hx hb dX7_leg_0 rfl (lv_at hl 1 rfl) ?_
  obtain ⟨x1, ex1, h0⟩ := ob_out h0
  have kx1 := m_X7_requireLeg l D ca z (wC ar ag ca P G ++ xs) a1  ex1 H.size
  refine z_callS K hZ X wC_fstx wC_fstx kx1 hl.1 1 q742 q743 q16 q744 hs_X7_requireLeg ⟨⟨Nat.le_of_ble_eq_true rfl, Nat.le_of_ble_eq_true rfl⟩, rfl, rfl⟩ rfl rfl (Nat.le_of_ble_eq_true rfl) dX7_leg_1 ⟨Nat.le_of_ble_eq_true rfl, Nat.le_of_ble_eq_true rfl⟩ rfl (fun H locs X => ?_)
  refine lv_aload_n hx hb dX7_leg_4 rfl (lv_at hl 0 rfl) ?_
  refine g_objr K X 0 (by decide) rfl q274 dX7_leg_5 ?_
  refine lv_iload_n hx hb dX7_leg_8 rfl (lv_at hl 1 rfl) ?_
  obtain ⟨x2, ex2, h0⟩ := lt_out h0
  have kx2 := mC_X3_legAt l D ca ar ag P 0 G xs (by decide) a1 x2 ex2.symm H.size
  refine w_callV0 K X wC_fstx kx2 hl.1 1 q746 q555 q556 q17 q557 hv_X3_legAt ⟨⟨Nat.le_of_ble_eq_true rfl, Nat.le_of_ble_eq_true rfl⟩, rfl, rfl⟩ (pl_rowo (by decide)) rfl rfl rfl rfl (Nat.le_of_ble_eq_true rfl) dX7_leg_9 ⟨Nat.le_of_ble_eq_true rfl, Nat.le_of_ble_eq_true rfl⟩ rfl (fun H locs X => ?_)
  obtain ⟨j3, ej3, h0⟩ := lt_out h0
  rw [← ej3]
  have hj3 : j3 < 2 := by rw [ej3]; exact lt_X3_legAt ex2
  refine lv_astore_n (lv' := [(3, .ref (ar 0 (j3 + 2))), (0, .ref (ag 0)), (1, .int a1), (2, .int a2)]) hx hb dX7_leg_12 rfl hl (by decide) rfl (fun ls hl => ?_)
  refine lv_iload_n hx hb dX7_leg_13 rfl (lv_at hl 3 rfl) ?_
  by_cases c4 : a2 = 0
  · have h0 := if_t c4 h0
    refine lv_tableIn (off := 30) (tgt := 44) hx hb dX7_leg_14 (by rw [c4]; decide) (by rw [c4]; decide) (by rw [c4]; decide) (by decide) ?_
    refine lv_aload_n hx hb dX7_leg_44 rfl (lv_at hl 0 rfl) ?_
    refine g_legi K X (by decide) hj3 rfl 0 (by decide) q56 dX7_leg_45 ?_
    have h0 := Option.some.inj h0
    subst h0
    subst hQ
    exact w_iret K hr0 X wC_fstx hsz dX7_leg_48
  have h0 := if_f c4 h0
  by_cases c5 : a2 = 1
  · have h0 := if_t c5 h0
    refine lv_tableIn (off := 35) (tgt := 49) hx hb dX7_leg_14 (by rw [c5]; decide) (by rw [c5]; decide) (by rw [c5]; decide) (by decide) ?_
    refine lv_aload_n hx hb dX7_leg_49 rfl (lv_at hl 0 rfl) ?_
    refine g_legi K X (by decide) hj3 rfl 1 (by decide) q59 dX7_leg_50 ?_
    have h0 := Option.some.inj h0
    subst h0
    subst hQ
    exact w_iret K hr0 X wC_fstx hsz dX7_leg_53
  have h0 := if_f c5 h0
  by_cases c6 : a2 = 2
  · have h0 := if_t c6 h0
    refine lv_tableIn (off := 40) (tgt := 54) hx hb dX7_leg_14 (by rw [c6]; decide) (by rw [c6]; decide) (by rw [c6]; decide) (by decide) ?_
    refine lv_aload_n hx hb dX7_leg_54 rfl (lv_at hl 0 rfl) ?_
    refine g_legi K X (by decide) hj3 rfl 2 (by decide) q62 dX7_leg_55 ?_
    have h0 := Option.some.inj h0
    subst h0
    subst hQ
    exact w_iret K hr0 X wC_fstx hsz dX7_leg_58
  have h0 := if_f c6 h0
  by_cases c7 : a2 = 3
  · have h0 := if_t c7 h0
    refine lv_tableIn (off := 45) (tgt := 59) hx hb dX7_leg_14 (by rw [c7]; decide) (by rw [c7]; decide) (by rw [c7]; decide) (by decide) ?_
    refine lv_aload_n hx hb dX7_leg_59 rfl (lv_at hl 0 rfl) ?_
    refine g_legl K X (by decide) hj3 rfl 6 (by decide) q73 dX7_leg_60 ?_
    refine lv_l2i hx hb dX7_leg_63 rfl ?_
    have h0 := Option.some.inj h0
    subst h0
    subst hQ
    exact w_iret K hr0 X wC_fstx hsz dX7_leg_64
  have h0 := if_f c7 h0
  refine lv_tableOut (tgt := 65) hx hb dX7_leg_14 (by have gc4 := lv_neT (a := 0) c4 (by decide); have gc5 := lv_neT (a := 1) c5 (by decide); have gc6 := lv_neT (a := 2) c6 (by decide); have gc7 := lv_neT (a := 3) c7 (by decide); omega) (by decide) ?_
  cases h0
-- X7_account
def f_X7_account (n : Nat) (P : RowsS) (G : GlbS) (a1 : Int32) (a2 : Int32) : Option Int64 :=
  ob (f_X7_requireLeg a1) fun x1 =>
  lt (f_X3_legAt (P 0) a1) fun x2 =>
  lt (x2) fun j3 =>
  ob (f_X3_volumesAt n (P 0) a1 ((P 0).2 (j3 + 2) 6)) fun x4 =>
  if a2 = 0 then
    some ((P 0).2 (j3 + 2) 3)
  else if a2 = 1 then
    some x4
  else if a2 = 2 then
    some ((P 0).2 (j3 + 2) 4)
  else if a2 = 3 then
    some ((P 0).2 (j3 + 2) 5)
  else if a2 = 4 then
    some ((((P 0).2 (j3 + 2) 3) - ((((P 0).1 (j3 + 2) 1).toInt64) * ((P 0).2 (j3 + 2) 6))) - x4)
  else none
abbrev rm_X7_account : Room := { frames := 3, cells := 0, slots := 0, locals := 89 }
set_option maxRecDepth 100000 in
set_option maxHeartbeats 4000000 in
theorem m_X7_account (l : Launch) (D : va_G) (ca : Nat → ClassId) (ar : Nat → Nat → Nat) (ag : Nat → Nat) (z : ZG) (n : Nat) (P : RowsS) (G : GlbS) (xs : va_W) (a1 : Int32) (a2 : Int32) (res : Int64) (h0 : f_X7_account n P G a1 a2 = some res) (sz : Nat) : Met l yX7_account (ws_ yX7_account cX7_account 6 (some .long)) rm_X7_account (PCz z D ca (wC ar ag ca P G ++ xs) sz [.ref (ag 0), .int a1, .int a2]) (QMw D (wC ar ag ca P G ++ xs) (wC ar ag ca P G ++ xs) sz (some (.long res))) 0 0 (AL (wC ar ag ca P G ++ xs) sz) := by
  refine met_z (by decide +kernel) (Nat.le_of_ble_eq_true rfl) (fun p e s m args below meth c K hr0 hZ X hsz ls hl => ?_)
  have K : MC D ca p s m args meth c cX7_account 6 RX7 := K
  have hx := K.1
  have hb := K.2.1
  have hl : lv_has ls 6 [(0, .ref (ag 0)), (1, .int a1), (2, .int a2)] := hl
  generalize hQ : MQ below _ args s 0 0 _ = Q
  unfold f_X7_account at h0
  suffices Z : ∀ (H : Heap) (locs : List Loc) (X : RW D (wC ar ag ca P G ++ xs) s.heap H locs), W p l e rm_X7_account s m args below meth c H locs 0 0 Q (F0 m 0 ls []) from Z _ _ X
  intro H locs X
  refine lv_iload_n hx hb dX7_account_0 rfl (lv_at hl 1 rfl) ?_
  obtain ⟨x1, ex1, h0⟩ := ob_out h0
  have kx1 := m_X7_requireLeg l D ca z (wC ar ag ca P G ++ xs) a1  ex1 H.size
  refine z_callS K hZ X wC_fstx wC_fstx kx1 hl.1 1 q742 q743 q16 q744 hs_X7_requireLeg ⟨⟨Nat.le_of_ble_eq_true rfl, Nat.le_of_ble_eq_true rfl⟩, rfl, rfl⟩ rfl rfl (Nat.le_of_ble_eq_true rfl) dX7_account_1 ⟨Nat.le_of_ble_eq_true rfl, Nat.le_of_ble_eq_true rfl⟩ rfl (fun H locs X => ?_)
  refine lv_aload_n hx hb dX7_account_4 rfl (lv_at hl 0 rfl) ?_
  refine g_objr K X 0 (by decide) rfl q274 dX7_account_5 ?_
  refine lv_iload_n hx hb dX7_account_8 rfl (lv_at hl 1 rfl) ?_
  obtain ⟨x2, ex2, h0⟩ := lt_out h0
  have kx2 := mC_X3_legAt l D ca ar ag P 0 G xs (by decide) a1 x2 ex2.symm H.size
  refine w_callV0 K X wC_fstx kx2 hl.1 1 q746 q555 q556 q17 q557 hv_X3_legAt ⟨⟨Nat.le_of_ble_eq_true rfl, Nat.le_of_ble_eq_true rfl⟩, rfl, rfl⟩ (pl_rowo (by decide)) rfl rfl rfl rfl (Nat.le_of_ble_eq_true rfl) dX7_account_9 ⟨Nat.le_of_ble_eq_true rfl, Nat.le_of_ble_eq_true rfl⟩ rfl (fun H locs X => ?_)
  obtain ⟨j3, ej3, h0⟩ := lt_out h0
  rw [← ej3]
  have hj3 : j3 < 2 := by rw [ej3]; exact lt_X3_legAt ex2
  refine lv_astore_n (lv' := [(3, .ref (ar 0 (j3 + 2))), (0, .ref (ag 0)), (1, .int a1), (2, .int a2)]) hx hb dX7_account_12 rfl hl (by decide) rfl (fun ls hl => ?_)
  refine lv_aload_n hx hb dX7_account_13 rfl (lv_at hl 1 rfl) ?_
  refine g_objr K X 0 (by decide) rfl q274 dX7_account_14 ?_
  refine lv_iload_n hx hb dX7_account_17 rfl (lv_at hl 2 rfl) ?_
  refine lv_aload_n hx hb dX7_account_18 rfl (lv_at hl 0 rfl) ?_
  refine g_legl K X (by decide) hj3 rfl 6 (by decide) q73 dX7_account_19 ?_
  obtain ⟨x4, ex4, h0⟩ := ob_out h0
  have kx4 := mC_X3_volumesAt l D ca ar ag n P 0 G xs (by decide) a1 ((P 0).2 (j3 + 2) 6) x4 ex4 H.size
  refine w_callV0 K X wC_fstx kx4 hl.1 2 q768 q644 q645 q17 q646 hv_X3_volumesAt ⟨⟨Nat.le_of_ble_eq_true rfl, Nat.le_of_ble_eq_true rfl⟩, rfl, rfl⟩ (pl_rowo (by decide)) rfl rfl rfl rfl (Nat.le_of_ble_eq_true rfl) dX7_account_22 ⟨Nat.le_of_ble_eq_true rfl, Nat.le_of_ble_eq_true rfl⟩ rfl (fun H locs X => ?_)
  refine lv_lstore (lv' := [(4, .long x4), (3, .ref (ar 0 (j3 + 2))), (0, .ref (ag 0)), (1, .int a1), (2, .int a2)]) hx hb dX7_account_25 hl (by decide) rfl (fun ls hl => ?_)
  refine lv_iload_n hx hb dX7_account_27 rfl (lv_at hl 4 rfl) ?_
  by_cases c5 : a2 = 0
  · have h0 := if_t c5 h0
    refine lv_tableIn (off := 36) (tgt := 64) hx hb dX7_account_28 (by rw [c5]; decide) (by rw [c5]; decide) (by rw [c5]; decide) (by decide) ?_
    refine lv_aload_n hx hb dX7_account_64 rfl (lv_at hl 1 rfl) ?_
    refine g_legl K X (by decide) hj3 rfl 3 (by decide) q65 dX7_account_65 ?_
    have h0 := Option.some.inj h0
    subst h0
    subst hQ
    exact w_lret K hr0 X wC_fstx hsz dX7_account_68
  have h0 := if_f c5 h0
  by_cases c6 : a2 = 1
  · have h0 := if_t c6 h0
    refine lv_tableIn (off := 41) (tgt := 69) hx hb dX7_account_28 (by rw [c6]; decide) (by rw [c6]; decide) (by rw [c6]; decide) (by decide) ?_
    refine lv_lload hx hb dX7_account_69 (lv_at hl 0 rfl) ?_
    have h0 := Option.some.inj h0
    subst h0
    subst hQ
    exact w_lret K hr0 X wC_fstx hsz dX7_account_71
  have h0 := if_f c6 h0
  by_cases c7 : a2 = 2
  · have h0 := if_t c7 h0
    refine lv_tableIn (off := 44) (tgt := 72) hx hb dX7_account_28 (by rw [c7]; decide) (by rw [c7]; decide) (by rw [c7]; decide) (by decide) ?_
    refine lv_aload_n hx hb dX7_account_72 rfl (lv_at hl 1 rfl) ?_
    refine g_legl K X (by decide) hj3 rfl 4 (by decide) q68 dX7_account_73 ?_
    have h0 := Option.some.inj h0
    subst h0
    subst hQ
    exact w_lret K hr0 X wC_fstx hsz dX7_account_76
  have h0 := if_f c7 h0
  by_cases c8 : a2 = 3
  · have h0 := if_t c8 h0
    refine lv_tableIn (off := 49) (tgt := 77) hx hb dX7_account_28 (by rw [c8]; decide) (by rw [c8]; decide) (by rw [c8]; decide) (by decide) ?_
    refine lv_aload_n hx hb dX7_account_77 rfl (lv_at hl 1 rfl) ?_
    refine g_legl K X (by decide) hj3 rfl 5 (by decide) q71 dX7_account_78 ?_
    have h0 := Option.some.inj h0
    subst h0
    subst hQ
    exact w_lret K hr0 X wC_fstx hsz dX7_account_81
  have h0 := if_f c8 h0
  by_cases c9 : a2 = 4
  · have h0 := if_t c9 h0
    refine lv_tableIn (off := 54) (tgt := 82) hx hb dX7_account_28 (by rw [c9]; decide) (by rw [c9]; decide) (by rw [c9]; decide) (by decide) ?_
    refine lv_aload_n hx hb dX7_account_82 rfl (lv_at hl 1 rfl) ?_
    refine g_legl K X (by decide) hj3 rfl 3 (by decide) q65 dX7_account_83 ?_
    refine lv_aload_n hx hb dX7_account_86 rfl (lv_at hl 1 rfl) ?_
    refine g_legi K X (by decide) hj3 rfl 1 (by decide) q59 dX7_account_87 ?_
    refine lv_i2l hx hb dX7_account_90 rfl ?_
    refine lv_aload_n hx hb dX7_account_91 rfl (lv_at hl 1 rfl) ?_
    refine g_legl K X (by decide) hj3 rfl 6 (by decide) q73 dX7_account_92 ?_
    refine lv_lmul hx hb dX7_account_95 ?_
    refine lv_lsub hx hb dX7_account_96 ?_
    refine lv_lload hx hb dX7_account_97 (lv_at hl 0 rfl) ?_
    refine lv_lsub hx hb dX7_account_99 ?_
    have h0 := Option.some.inj h0
    subst h0
    subst hQ
    exact w_lret K hr0 X wC_fstx hsz dX7_account_100
  have h0 := if_f c9 h0
  refine lv_tableOut (tgt := 101) hx hb dX7_account_28 (by have gc5 := lv_neT (a := 0) c5 (by decide); have gc6 := lv_neT (a := 1) c6 (by decide); have gc7 := lv_neT (a := 2) c7 (by decide); have gc8 := lv_neT (a := 3) c8 (by decide); have gc9 := lv_neT (a := 4) c9 (by decide); omega) (by decide) ?_
  cases h0
-- X7_requireTube
def b_X7_requireTube_15   : Option Unit :=
  none
def f_X7_requireTube (P : RowsS) (G : GlbS) (a1 : Int32) : Option Unit :=
  if a1 < 0 then
    b_X7_requireTube_15
  else
    if a1 < ((P 0).1 0 2) then
      some ()
    else
      b_X7_requireTube_15
abbrev rm_X7_requireTube : Room := { frames := 0, cells := 0, slots := 0, locals := 0 }
set_option maxRecDepth 100000 in
set_option maxHeartbeats 4000000 in
theorem m_X7_requireTube (l : Launch) (D : va_G) (ca : Nat → ClassId) (ar : Nat → Nat → Nat) (ag : Nat → Nat) (z : ZG) (P : RowsS) (G : GlbS) (xs : va_W) (a1 : Int32)  (h0 : f_X7_requireTube P G a1 = some ()) (sz : Nat) : Met l yX7_requireTube (ws_ yX7_requireTube cX7_requireTube 2 none) rm_X7_requireTube (PCz z D ca (wC ar ag ca P G ++ xs) sz [.ref (ag 0), .int a1]) (QMw D (wC ar ag ca P G ++ xs) (wC ar ag ca P G ++ xs) sz none) 0 0 (AL (wC ar ag ca P G ++ xs) sz) := by
  refine met_z (by decide +kernel) (Nat.le_of_ble_eq_true rfl) (fun p e s m args below meth c K hr0 hZ X hsz ls hl => ?_)
  have K : MC D ca p s m args meth c cX7_requireTube 2 RX7 := K
  have hx := K.1
  have hb := K.2.1
  have hl : lv_has ls 2 [(0, .ref (ag 0)), (1, .int a1)] := hl
  generalize hQ : MQ below _ args s 0 0 _ = Q
  unfold f_X7_requireTube at h0
  suffices Z : ∀ (H : Heap) (locs : List Loc) (X : RW D (wC ar ag ca P G ++ xs) s.heap H locs), W p l e rm_X7_requireTube s m args below meth c H locs 0 0 Q (F0 m 0 ls []) from Z _ _ X
  intro H locs X
  have J15 : ∀  (H : Heap) (locs : List Loc) (X : RW D (wC ar ag ca P G ++ xs) s.heap H locs) (ls : Array Slot) (hl : lv_has ls 2 []) (h0 : b_X7_requireTube_15 = some ()), W p l e rm_X7_requireTube s m args below meth c H locs 0 0 Q (F0 m 15 ls []) := by
    intro  H locs X ls hl h0
    unfold b_X7_requireTube_15 at h0
    cases h0
  refine lv_iload_n hx hb dX7_requireTube_0 rfl (lv_at hl 1 rfl) ?_
  refine lv_if_lt (tgt := 15) hx hb dX7_requireTube_1 (by decide) (fun c1 => ?_) (fun c1 => ?_)
  · have h0 := if_t c1 h0
    exact J15  H locs X ls (lv_sub hl [] rfl) h0
  · have h0 := if_f c1 h0
    refine lv_iload_n hx hb dX7_requireTube_4 rfl (lv_at hl 1 rfl) ?_
    refine lv_aload_n hx hb dX7_requireTube_5 rfl (lv_at hl 0 rfl) ?_
    refine g_objr K X 0 (by decide) rfl q274 dX7_requireTube_6 ?_
    refine g_rowi K X (by decide) rfl 2 (by decide) q151 dX7_requireTube_9 ?_
    refine lv_icmp_lt (tgt := 26) hx hb dX7_requireTube_12 (by decide) (fun c2 => ?_) (fun c2 => ?_)
    · have h0 := if_t c2 h0
      have h0 := Option.some.inj h0
      subst hQ
      exact w_vret K hr0 X wC_fstx hsz dX7_requireTube_26
    · have h0 := if_f c2 h0
      exact J15  H locs X ls (lv_sub hl [] rfl) h0
-- X7_tube
def b_X7_tube_15   : Option Int32 :=
  none
def f_X7_tube (P : RowsS) (G : GlbS) (a1 : Int32) (a2 : Int32) : Option Int32 :=
  ob (f_X7_requireTube P G a1) fun x1 =>
  if a2 < 0 then
    b_X7_tube_15
  else
    if a2 ≤ 10 then
      lt (f_X3_numberOf (P 0) a1 a2) fun x4 =>
      some x4
    else
      b_X7_tube_15
abbrev rm_X7_tube : Room := { frames := 2, cells := 0, slots := 0, locals := 44 }
set_option maxRecDepth 100000 in
set_option maxHeartbeats 4000000 in
theorem m_X7_tube (l : Launch) (D : va_G) (ca : Nat → ClassId) (ar : Nat → Nat → Nat) (ag : Nat → Nat) (z : ZG) (P : RowsS) (G : GlbS) (xs : va_W) (a1 : Int32) (a2 : Int32) (res : Int32) (h0 : f_X7_tube P G a1 a2 = some res) (sz : Nat) : Met l yX7_tube (ws_ yX7_tube cX7_tube 3 (some .int)) rm_X7_tube (PCz z D ca (wC ar ag ca P G ++ xs) sz [.ref (ag 0), .int a1, .int a2]) (QMw D (wC ar ag ca P G ++ xs) (wC ar ag ca P G ++ xs) sz (some (.int res))) 0 0 (AL (wC ar ag ca P G ++ xs) sz) := by
  refine met_z (by decide +kernel) (Nat.le_of_ble_eq_true rfl) (fun p e s m args below meth c K hr0 hZ X hsz ls hl => ?_)
  have K : MC D ca p s m args meth c cX7_tube 3 RX7 := K
  have hx := K.1
  have hb := K.2.1
  have hl : lv_has ls 3 [(0, .ref (ag 0)), (1, .int a1), (2, .int a2)] := hl
  generalize hQ : MQ below _ args s 0 0 _ = Q
  unfold f_X7_tube at h0
  suffices Z : ∀ (H : Heap) (locs : List Loc) (X : RW D (wC ar ag ca P G ++ xs) s.heap H locs), W p l e rm_X7_tube s m args below meth c H locs 0 0 Q (F0 m 0 ls []) from Z _ _ X
  intro H locs X
  have J15 : ∀  (H : Heap) (locs : List Loc) (X : RW D (wC ar ag ca P G ++ xs) s.heap H locs) (ls : Array Slot) (hl : lv_has ls 3 []) (h0 : b_X7_tube_15 = some res), W p l e rm_X7_tube s m args below meth c H locs 0 0 Q (F0 m 15 ls []) := by
    intro  H locs X ls hl h0
    unfold b_X7_tube_15 at h0
    cases h0
  refine lv_aload_n hx hb dX7_tube_0 rfl (lv_at hl 0 rfl) ?_
  refine lv_iload_n hx hb dX7_tube_1 rfl (lv_at hl 1 rfl) ?_
  obtain ⟨x1, ex1, h0⟩ := ob_out h0
  have kx1 := m_X7_requireTube l D ca ar ag z P G xs a1  ex1 H.size
  refine z_callV K hZ X wC_fstx wC_fstx kx1 hl.1 1 q714 q716 q13 q16 q717 hv_X7_requireTube ⟨⟨Nat.le_of_ble_eq_true rfl, Nat.le_of_ble_eq_true rfl⟩, rfl, rfl⟩ (z_recvw K X (pl_glb (k := 0) (by decide)) rfl rfl) rfl rfl (Nat.le_of_ble_eq_true rfl) dX7_tube_2 ⟨Nat.le_of_ble_eq_true rfl, Nat.le_of_ble_eq_true rfl⟩ rfl (fun H locs X => ?_)
  refine lv_iload_n hx hb dX7_tube_5 rfl (lv_at hl 2 rfl) ?_
  refine lv_if_lt (tgt := 15) hx hb dX7_tube_6 (by decide) (fun c2 => ?_) (fun c2 => ?_)
  · have h0 := if_t c2 h0
    exact J15  H locs X ls (lv_sub hl [] rfl) h0
  · have h0 := if_f c2 h0
    refine lv_iload_n hx hb dX7_tube_9 rfl (lv_at hl 2 rfl) ?_
    refine lv_bipush (v := 10) hx hb dX7_tube_10 (by decide) ?_
    refine lv_icmp_le (tgt := 25) hx hb dX7_tube_12 (by decide) (fun c3 => ?_) (fun c3 => ?_)
    · have h0 := if_t c3 h0
      refine lv_aload_n hx hb dX7_tube_25 rfl (lv_at hl 0 rfl) ?_
      refine g_objr K X 0 (by decide) rfl q274 dX7_tube_26 ?_
      refine lv_iload_n hx hb dX7_tube_29 rfl (lv_at hl 1 rfl) ?_
      refine lv_iload_n hx hb dX7_tube_30 rfl (lv_at hl 2 rfl) ?_
      obtain ⟨x4, ex4, h0⟩ := lt_out h0
      have kx4 := mC_X3_numberOf l D ca ar ag P 0 G xs (by decide) a1 a2 x4 ex4.symm H.size
      refine w_callV0 K X wC_fstx kx4 hl.1 2 q720 q721 q722 q17 q723 hv_X3_numberOf ⟨⟨Nat.le_of_ble_eq_true rfl, Nat.le_of_ble_eq_true rfl⟩, rfl, rfl⟩ (pl_rowo (by decide)) rfl rfl rfl rfl (Nat.le_of_ble_eq_true rfl) dX7_tube_31 ⟨Nat.le_of_ble_eq_true rfl, Nat.le_of_ble_eq_true rfl⟩ rfl (fun H locs X => ?_)
      have h0 := Option.some.inj h0
      subst h0
      subst hQ
      exact w_iret K hr0 X wC_fstx hsz dX7_tube_34
    · have h0 := if_f c3 h0
      exact J15  H locs X ls (lv_sub hl [] rfl) h0
-- X7_room
def f_X7_room (P : RowsS) (G : GlbS) (a1 : Int32) : Option Int32 :=
  ob (f_X7_requireTube P G a1) fun x1 =>
  lt (f_X3_tubeAt (P 0) a1) fun x2 =>
  lt (x2) fun j3 =>
  if ((P 0).1 (j3 + 5) 6) = 0 then
    lt (f_X6_fullColumn ((P 0).1 (j3 + 5))) fun x5 =>
    some (x5 - ((P 0).1 (j3 + 5) 9))
  else
    some (-1)
abbrev rm_X7_room : Room := { frames := 1, cells := 0, slots := 0, locals := 21 }
set_option maxRecDepth 100000 in
set_option maxHeartbeats 4000000 in
theorem m_X7_room (l : Launch) (D : va_G) (ca : Nat → ClassId) (ar : Nat → Nat → Nat) (ag : Nat → Nat) (z : ZG) (P : RowsS) (G : GlbS) (xs : va_W) (a1 : Int32) (res : Int32) (h0 : f_X7_room P G a1 = some res) (sz : Nat) : Met l yX7_room (ws_ yX7_room cX7_room 3 (some .int)) rm_X7_room (PCz z D ca (wC ar ag ca P G ++ xs) sz [.ref (ag 0), .int a1]) (QMw D (wC ar ag ca P G ++ xs) (wC ar ag ca P G ++ xs) sz (some (.int res))) 0 0 (AL (wC ar ag ca P G ++ xs) sz) := by
  refine met_z (by decide +kernel) (Nat.le_of_ble_eq_true rfl) (fun p e s m args below meth c K hr0 hZ X hsz ls hl => ?_)
  have K : MC D ca p s m args meth c cX7_room 3 RX7 := K
  have hx := K.1
  have hb := K.2.1
  have hl : lv_has ls 3 [(0, .ref (ag 0)), (1, .int a1)] := hl
  generalize hQ : MQ below _ args s 0 0 _ = Q
  unfold f_X7_room at h0
  suffices Z : ∀ (H : Heap) (locs : List Loc) (X : RW D (wC ar ag ca P G ++ xs) s.heap H locs), W p l e rm_X7_room s m args below meth c H locs 0 0 Q (F0 m 0 ls []) from Z _ _ X
  intro H locs X
  refine lv_aload_n hx hb dX7_room_0 rfl (lv_at hl 0 rfl) ?_
  refine lv_iload_n hx hb dX7_room_1 rfl (lv_at hl 1 rfl) ?_
  obtain ⟨x1, ex1, h0⟩ := ob_out h0
  have kx1 := m_X7_requireTube l D ca ar ag z P G xs a1  ex1 H.size
  refine z_callV K hZ X wC_fstx wC_fstx kx1 hl.1 1 q714 q716 q13 q16 q717 hv_X7_requireTube ⟨⟨Nat.le_of_ble_eq_true rfl, Nat.le_of_ble_eq_true rfl⟩, rfl, rfl⟩ (z_recvw K X (pl_glb (k := 0) (by decide)) rfl rfl) rfl rfl (Nat.le_of_ble_eq_true rfl) dX7_room_2 ⟨Nat.le_of_ble_eq_true rfl, Nat.le_of_ble_eq_true rfl⟩ rfl (fun H locs X => ?_)
  refine lv_aload_n hx hb dX7_room_5 rfl (lv_at hl 0 rfl) ?_
  refine g_objr K X 0 (by decide) rfl q274 dX7_room_6 ?_
  refine lv_iload_n hx hb dX7_room_9 rfl (lv_at hl 1 rfl) ?_
  obtain ⟨x2, ex2, h0⟩ := lt_out h0
  have kx2 := mC_X3_tubeAt l D ca ar ag P 0 G xs (by decide) a1 x2 ex2.symm H.size
  refine w_callV0 K X wC_fstx kx2 hl.1 1 q756 q575 q576 q17 q577 hv_X3_tubeAt ⟨⟨Nat.le_of_ble_eq_true rfl, Nat.le_of_ble_eq_true rfl⟩, rfl, rfl⟩ (pl_rowo (by decide)) rfl rfl rfl rfl (Nat.le_of_ble_eq_true rfl) dX7_room_10 ⟨Nat.le_of_ble_eq_true rfl, Nat.le_of_ble_eq_true rfl⟩ rfl (fun H locs X => ?_)
  obtain ⟨j3, ej3, h0⟩ := lt_out h0
  rw [← ej3]
  have hj3 : j3 < 13 := by rw [ej3]; exact lt_X3_tubeAt ex2
  refine lv_astore_n (lv' := [(2, .ref (ar 0 (j3 + 5))), (0, .ref (ag 0)), (1, .int a1)]) hx hb dX7_room_13 rfl hl (by decide) rfl (fun ls hl => ?_)
  refine lv_aload_n hx hb dX7_room_14 rfl (lv_at hl 0 rfl) ?_
  refine g_tube K X (by decide) hj3 rfl 6 (by decide) q115 dX7_room_15 ?_
  refine lv_if_ne (tgt := 33) hx hb dX7_room_18 (by decide) (fun c4 => ?_) (fun c4 => ?_)
  · have h0 := if_f c4 h0
    refine lv_iconst (v := (-1)) hx hb dX7_room_33 (by decide) ?_
    have h0 := Option.some.inj h0
    subst h0
    subst hQ
    exact w_iret K hr0 X wC_fstx hsz dX7_room_34
  · have h0 := if_t c4 h0
    refine lv_aload_n hx hb dX7_room_21 rfl (lv_at hl 0 rfl) ?_
    obtain ⟨x5, ex5, h0⟩ := lt_out h0
    have kx5 := mC_X6_fullColumn l D ca ar ag P 0 j3 G xs (by decide) hj3 x5 ex5.symm H.size
    refine w_callV0 K X wC_fstx kx5 hl.1 0 q757 q636 q637 q19 q638 hv_X6_fullColumn ⟨⟨Nat.le_of_ble_eq_true rfl, Nat.le_of_ble_eq_true rfl⟩, rfl, rfl⟩ (pl_tube (by decide) hj3) rfl rfl rfl rfl (Nat.le_of_ble_eq_true rfl) dX7_room_22 ⟨Nat.le_of_ble_eq_true rfl, Nat.le_of_ble_eq_true rfl⟩ rfl (fun H locs X => ?_)
    refine lv_aload_n hx hb dX7_room_25 rfl (lv_at hl 0 rfl) ?_
    refine g_tube K X (by decide) hj3 rfl 9 (by decide) q122 dX7_room_26 ?_
    refine lv_isub hx hb dX7_room_29 ?_
    refine lv_goto (tgt := 34) hx hb dX7_room_30 (by decide) ?_
    have h0 := Option.some.inj h0
    subst h0
    subst hQ
    exact w_iret K hr0 X wC_fstx hsz dX7_room_34
-- X7_setPressure
def f_X7_setPressure (n : Nat) (P : RowsS) (G : GlbS) (a1 : Int32) (a2 : Int32) : Option (Int32 × RowsS × GlbS) :=
  ob (f_X7_requirePoint P G a1) fun x1 =>
  ob (f_X7_requireWithin a2 0 99999) fun x2 =>
  ob (f_X0_keep n P G 0) fun x3 =>
  lt (x3.1) fun Pv4 =>
  lt (x3.2) fun Gv5 =>
  lt (f_X3_press (Pv4 0) a1 a2) fun x6 =>
  lt (va_up Pv4 0 x6) fun Pv7 =>
  ob (f_X3_settle n (Pv7 0)) fun x8 =>
  lt (va_up Pv7 0 x8.2) fun Pv9 =>
  some (x8.1, Pv9, Gv5)
abbrev rm_X7_setPressure : Room := { frames := 6, cells := 0, slots := 0, locals := 166 }
set_option maxRecDepth 100000 in
set_option maxHeartbeats 4000000 in
theorem m_X7_setPressure (l : Launch) (D : va_G) (ca : Nat → ClassId) (ar : Nat → Nat → Nat) (ag : Nat → Nat) (z : ZG) (n : Nat) (P : RowsS) (G : GlbS) (xs : va_W) (a1 : Int32) (a2 : Int32) (res : Int32) (P' : RowsS) (G' : GlbS) (h0 : f_X7_setPressure n P G a1 a2 = some (res, P', G')) (sz : Nat) : Met l yX7_setPressure (ws_ yX7_setPressure cX7_setPressure 3 (some .int)) rm_X7_setPressure (PCz z D ca (wC ar ag ca P G ++ xs) sz [.ref (ag 0), .int a1, .int a2]) (QMw D (wC ar ag ca P G ++ xs) (wC ar ag ca (P') (G') ++ xs) sz (some (.int res))) 0 0 (AL (wC ar ag ca P G ++ xs) sz) := by
  refine met_z (by decide +kernel) (Nat.le_of_ble_eq_true rfl) (fun p e s m args below meth c K hr0 hZ X hsz ls hl => ?_)
  have K : MC D ca p s m args meth c cX7_setPressure 3 RX7 := K
  have hx := K.1
  have hb := K.2.1
  have hl : lv_has ls 3 [(0, .ref (ag 0)), (1, .int a1), (2, .int a2)] := hl
  generalize hQ : MQ below _ args s 0 0 _ = Q
  unfold f_X7_setPressure at h0
  suffices Z : ∀ (H : Heap) (locs : List Loc) (X : RW D (wC ar ag ca P G ++ xs) s.heap H locs), W p l e rm_X7_setPressure s m args below meth c H locs 0 0 Q (F0 m 0 ls []) from Z _ _ X
  intro H locs X
  refine lv_aload_n hx hb dX7_setPressure_0 rfl (lv_at hl 0 rfl) ?_
  refine lv_iload_n hx hb dX7_setPressure_1 rfl (lv_at hl 1 rfl) ?_
  obtain ⟨x1, ex1, h0⟩ := ob_out h0
  have kx1 := m_X7_requirePoint l D ca ar ag z P G xs a1  ex1 H.size
  refine z_callV K hZ X wC_fstx wC_fstx kx1 hl.1 1 q732 q734 q14 q16 q735 hv_X7_requirePoint ⟨⟨Nat.le_of_ble_eq_true rfl, Nat.le_of_ble_eq_true rfl⟩, rfl, rfl⟩ (z_recvw K X (pl_glb (k := 0) (by decide)) rfl rfl) rfl rfl (Nat.le_of_ble_eq_true rfl) dX7_setPressure_2 ⟨Nat.le_of_ble_eq_true rfl, Nat.le_of_ble_eq_true rfl⟩ rfl (fun H locs X => ?_)
  refine lv_iload_n hx hb dX7_setPressure_5 rfl (lv_at hl 2 rfl) ?_
  refine lv_iconst (v := 0) hx hb dX7_setPressure_6 (by decide) ?_
  refine lv_ldc hx hb K.2.2.2.1 (K.2.2.2.2.1 _ q778) dX7_setPressure_7 ?_
  obtain ⟨x2, ex2, h0⟩ := ob_out h0
  have kx2 := m_X7_requireWithin l D ca z (wC ar ag ca P G ++ xs) a2 0 99999  ex2 H.size
  refine z_callS K hZ X wC_fstx wC_fstx kx2 hl.1 3 q402 q403 q16 q404 hs_X7_requireWithin ⟨⟨Nat.le_of_ble_eq_true rfl, Nat.le_of_ble_eq_true rfl⟩, rfl, rfl⟩ rfl rfl (Nat.le_of_ble_eq_true rfl) dX7_setPressure_9 ⟨Nat.le_of_ble_eq_true rfl, Nat.le_of_ble_eq_true rfl⟩ rfl (fun H locs X => ?_)
  refine lv_aload_n hx hb dX7_setPressure_12 rfl (lv_at hl 0 rfl) ?_
  refine g_objr K X 3 (by decide) rfl q277 dX7_setPressure_13 ?_
  refine lv_aload_n hx hb dX7_setPressure_16 rfl (lv_at hl 0 rfl) ?_
  refine g_objr K X 0 (by decide) rfl q274 dX7_setPressure_17 ?_
  obtain ⟨x3, ex3, h0⟩ := ob_out h0
  obtain ⟨Pv4, ePv4, h0⟩ := lt_out h0
  obtain ⟨Gv5, eGv5, h0⟩ := lt_out h0
  have kx3 := m_X0_keep l D ca ar ag n P G xs 0 (by decide) x3.1 x3.2 ex3 H.size
  rw [← ePv4, ← eGv5] at kx3
  refine w_callV0 K X wC_fstx kx3 hl.1 1 q779 q780 q781 q20 q782 hv_X0_keep ⟨⟨Nat.le_of_ble_eq_true rfl, Nat.le_of_ble_eq_true rfl⟩, rfl, rfl⟩ (pl_glb (k := 1) (by decide)) rfl rfl rfl rfl (Nat.le_of_ble_eq_true rfl) dX7_setPressure_20 ⟨Nat.le_of_ble_eq_true rfl, Nat.le_of_ble_eq_true rfl⟩ rfl (fun H locs X => ?_)
  refine lv_aload_n hx hb dX7_setPressure_23 rfl (lv_at hl 0 rfl) ?_
  refine g_objr K X 0 (by decide) rfl q274 dX7_setPressure_24 ?_
  refine lv_iload_n hx hb dX7_setPressure_27 rfl (lv_at hl 1 rfl) ?_
  refine lv_iload_n hx hb dX7_setPressure_28 rfl (lv_at hl 2 rfl) ?_
  obtain ⟨x6, ex6, h0⟩ := lt_out h0
  obtain ⟨Pv7, ePv7, h0⟩ := lt_out h0
  have kx6 := mC_X3_press l D ca ar ag Pv4 0 Gv5 xs (by decide) a1 a2 x6 ex6.symm H.size
  rw [← ePv7] at kx6
  refine w_callV0 K X wC_fstx kx6 hl.1 2 q787 q589 q590 q17 q591 hv_X3_press ⟨⟨Nat.le_of_ble_eq_true rfl, Nat.le_of_ble_eq_true rfl⟩, rfl, rfl⟩ (pl_rowo (by decide)) rfl rfl rfl rfl (Nat.le_of_ble_eq_true rfl) dX7_setPressure_29 ⟨Nat.le_of_ble_eq_true rfl, Nat.le_of_ble_eq_true rfl⟩ rfl (fun H locs X => ?_)
  refine lv_aload_n hx hb dX7_setPressure_32 rfl (lv_at hl 0 rfl) ?_
  refine g_objr K X 0 (by decide) rfl q274 dX7_setPressure_33 ?_
  obtain ⟨x8, ex8, h0⟩ := ob_out h0
  obtain ⟨Pv9, ePv9, h0⟩ := lt_out h0
  have kx8 := mC_X3_settle l D ca ar ag n Pv7 0 Gv5 xs (by decide) x8.1 x8.2 ex8 H.size
  rw [← ePv9] at kx8
  refine w_callV0 K X wC_fstx kx8 hl.1 0 q614 q615 q616 q17 q617 hv_X3_settle ⟨⟨Nat.le_of_ble_eq_true rfl, Nat.le_of_ble_eq_true rfl⟩, rfl, rfl⟩ (pl_rowo (by decide)) rfl rfl rfl rfl (Nat.le_of_ble_eq_true rfl) dX7_setPressure_36 ⟨Nat.le_of_ble_eq_true rfl, Nat.le_of_ble_eq_true rfl⟩ rfl (fun H locs X => ?_)
  have h0 := Option.some.inj h0
  obtain ⟨q_0, h0⟩ := Prod.mk.inj h0
  obtain ⟨q_1, q_2⟩ := Prod.mk.inj h0
  subst q_0
  subst q_1
  subst q_2
  subst hQ
  exact w_iret K hr0 X wC_fstx hsz dX7_setPressure_39
-- X7_setReference
def f_X7_setReference (n : Nat) (P : RowsS) (G : GlbS) (a1 : Int32) : Option (Int32 × RowsS × GlbS) :=
  ob (f_X7_requireWithin a1 0 99999) fun x1 =>
  ob (f_X0_keep n P G 0) fun x2 =>
  lt (x2.1) fun Pv3 =>
  lt (x2.2) fun Gv4 =>
  lt (va_up Pv3 0 (si (Pv3 0) 0 1 a1)) fun Pv5 =>
  ob (f_X3_settle n (Pv5 0)) fun x6 =>
  lt (va_up Pv5 0 x6.2) fun Pv7 =>
  some (x6.1, Pv7, Gv4)
abbrev rm_X7_setReference : Room := { frames := 6, cells := 0, slots := 0, locals := 166 }
set_option maxRecDepth 100000 in
set_option maxHeartbeats 4000000 in
theorem m_X7_setReference (l : Launch) (D : va_G) (ca : Nat → ClassId) (ar : Nat → Nat → Nat) (ag : Nat → Nat) (z : ZG) (n : Nat) (P : RowsS) (G : GlbS) (xs : va_W) (a1 : Int32) (res : Int32) (P' : RowsS) (G' : GlbS) (h0 : f_X7_setReference n P G a1 = some (res, P', G')) (sz : Nat) : Met l yX7_setReference (ws_ yX7_setReference cX7_setReference 2 (some .int)) rm_X7_setReference (PCz z D ca (wC ar ag ca P G ++ xs) sz [.ref (ag 0), .int a1]) (QMw D (wC ar ag ca P G ++ xs) (wC ar ag ca (P') (G') ++ xs) sz (some (.int res))) 0 0 (AL (wC ar ag ca P G ++ xs) sz) := by
  refine met_z (by decide +kernel) (Nat.le_of_ble_eq_true rfl) (fun p e s m args below meth c K hr0 hZ X hsz ls hl => ?_)
  have K : MC D ca p s m args meth c cX7_setReference 2 RX7 := K
  have hx := K.1
  have hb := K.2.1
  have hl : lv_has ls 2 [(0, .ref (ag 0)), (1, .int a1)] := hl
  generalize hQ : MQ below _ args s 0 0 _ = Q
  unfold f_X7_setReference at h0
  suffices Z : ∀ (H : Heap) (locs : List Loc) (X : RW D (wC ar ag ca P G ++ xs) s.heap H locs), W p l e rm_X7_setReference s m args below meth c H locs 0 0 Q (F0 m 0 ls []) from Z _ _ X
  intro H locs X
  refine lv_iload_n hx hb dX7_setReference_0 rfl (lv_at hl 1 rfl) ?_
  refine lv_iconst (v := 0) hx hb dX7_setReference_1 (by decide) ?_
  refine lv_ldc hx hb K.2.2.2.1 (K.2.2.2.2.1 _ q778) dX7_setReference_2 ?_
  obtain ⟨x1, ex1, h0⟩ := ob_out h0
  have kx1 := m_X7_requireWithin l D ca z (wC ar ag ca P G ++ xs) a1 0 99999  ex1 H.size
  refine z_callS K hZ X wC_fstx wC_fstx kx1 hl.1 3 q402 q403 q16 q404 hs_X7_requireWithin ⟨⟨Nat.le_of_ble_eq_true rfl, Nat.le_of_ble_eq_true rfl⟩, rfl, rfl⟩ rfl rfl (Nat.le_of_ble_eq_true rfl) dX7_setReference_4 ⟨Nat.le_of_ble_eq_true rfl, Nat.le_of_ble_eq_true rfl⟩ rfl (fun H locs X => ?_)
  refine lv_aload_n hx hb dX7_setReference_7 rfl (lv_at hl 0 rfl) ?_
  refine g_objr K X 3 (by decide) rfl q277 dX7_setReference_8 ?_
  refine lv_aload_n hx hb dX7_setReference_11 rfl (lv_at hl 0 rfl) ?_
  refine g_objr K X 0 (by decide) rfl q274 dX7_setReference_12 ?_
  obtain ⟨x2, ex2, h0⟩ := ob_out h0
  obtain ⟨Pv3, ePv3, h0⟩ := lt_out h0
  obtain ⟨Gv4, eGv4, h0⟩ := lt_out h0
  have kx2 := m_X0_keep l D ca ar ag n P G xs 0 (by decide) x2.1 x2.2 ex2 H.size
  rw [← ePv3, ← eGv4] at kx2
  refine w_callV0 K X wC_fstx kx2 hl.1 1 q779 q780 q781 q20 q782 hv_X0_keep ⟨⟨Nat.le_of_ble_eq_true rfl, Nat.le_of_ble_eq_true rfl⟩, rfl, rfl⟩ (pl_glb (k := 1) (by decide)) rfl rfl rfl rfl (Nat.le_of_ble_eq_true rfl) dX7_setReference_15 ⟨Nat.le_of_ble_eq_true rfl, Nat.le_of_ble_eq_true rfl⟩ rfl (fun H locs X => ?_)
  refine lv_aload_n hx hb dX7_setReference_18 rfl (lv_at hl 0 rfl) ?_
  refine g_objr K X 0 (by decide) rfl q274 dX7_setReference_19 ?_
  refine lv_iload_n hx hb dX7_setReference_22 rfl (lv_at hl 1 rfl) ?_
  obtain ⟨Pv5, ePv5, h0⟩ := lt_out h0
  refine p_rowi K X (by decide) 1 (by decide) ePv5.symm q148 dX7_setReference_23 (fun H locs X => ?_)
  refine lv_aload_n hx hb dX7_setReference_26 rfl (lv_at hl 0 rfl) ?_
  refine g_objr K X 0 (by decide) rfl q274 dX7_setReference_27 ?_
  obtain ⟨x6, ex6, h0⟩ := ob_out h0
  obtain ⟨Pv7, ePv7, h0⟩ := lt_out h0
  have kx6 := mC_X3_settle l D ca ar ag n Pv5 0 Gv4 xs (by decide) x6.1 x6.2 ex6 H.size
  rw [← ePv7] at kx6
  refine w_callV0 K X wC_fstx kx6 hl.1 0 q614 q615 q616 q17 q617 hv_X3_settle ⟨⟨Nat.le_of_ble_eq_true rfl, Nat.le_of_ble_eq_true rfl⟩, rfl, rfl⟩ (pl_rowo (by decide)) rfl rfl rfl rfl (Nat.le_of_ble_eq_true rfl) dX7_setReference_30 ⟨Nat.le_of_ble_eq_true rfl, Nat.le_of_ble_eq_true rfl⟩ rfl (fun H locs X => ?_)
  have h0 := Option.some.inj h0
  obtain ⟨q_0, h0⟩ := Prod.mk.inj h0
  obtain ⟨q_1, q_2⟩ := Prod.mk.inj h0
  subst q_0
  subst q_1
  subst q_2
  subst hQ
  exact w_iret K hr0 X wC_fstx hsz dX7_setReference_33
-- X7_sweep
def b_X7_sweep_90  (y90_l5 : Int32) (P_90 : RowsS) (G_90 : GlbS) : Option (Int32 × RowsS × GlbS) :=
  some (y90_l5, P_90, G_90)
def l_X7_sweep_46 (n : Nat) (a1 : Int32) (a2 : Int32) (a3 : Int32) (x7 : Int32) (z46_5 : Int32) (z46_6 : Int32) (Pz_46 : RowsS) : Option ((Int32 × Int32 × RowsS) ⊕ (Int32 × RowsS)) :=
  if a3 < z46_6 then
    some (.inr (z46_5, Pz_46))
  else
    if ¬ a3 = 0 then
      lt (f_X3_press (Pz_46 0) a1 (x7 + (((a2 - x7) * z46_6) / a3))) fun x10 =>
      lt (va_up Pz_46 0 x10) fun Pv11 =>
      ob (f_X3_settle n (Pv11 0)) fun x12 =>
      lt (va_up Pv11 0 x12.2) fun Pv13 =>
      lt (z46_5 + x12.1) fun x14 =>
      lt (z46_6 + 1) fun x15 =>
      some (.inl (x14, x15, Pv13))
    else none
def f_X7_sweep (n : Nat) (P : RowsS) (G : GlbS) (a1 : Int32) (a2 : Int32) (a3 : Int32) : Option (Int32 × RowsS × GlbS) :=
  ob (f_X7_requirePoint P G a1) fun x1 =>
  ob (f_X7_requireWithin a2 0 99999) fun x2 =>
  ob (f_X7_requireWithin a3 1 50) fun x3 =>
  ob (f_X0_keep n P G 0) fun x4 =>
  lt (x4.1) fun Pv5 =>
  lt (x4.2) fun Gv6 =>
  lt (f_X3_pressureAt (Pv5 0) a1) fun x7 =>
  ob (wloop (fun t => l_X7_sweep_46 n a1 a2 a3 x7 t.1 t.2.1 t.2.2) n (0, 1, Pv5)) (fun t => b_X7_sweep_90 t.1 t.2 Gv6)
abbrev rm_X7_sweep : Room := { frames := 6, cells := 0, slots := 0, locals := 166 }
set_option maxRecDepth 100000 in
set_option maxHeartbeats 4000000 in
theorem m_X7_sweep (l : Launch) (D : va_G) (ca : Nat → ClassId) (ar : Nat → Nat → Nat) (ag : Nat → Nat) (z : ZG) (n : Nat) (P : RowsS) (G : GlbS) (xs : va_W) (a1 : Int32) (a2 : Int32) (a3 : Int32) (res : Int32) (P' : RowsS) (G' : GlbS) (h0 : f_X7_sweep n P G a1 a2 a3 = some (res, P', G')) (sz : Nat) : Met l yX7_sweep (ws_ yX7_sweep cX7_sweep 7 (some .int)) rm_X7_sweep (PCz z D ca (wC ar ag ca P G ++ xs) sz [.ref (ag 0), .int a1, .int a2, .int a3]) (QMw D (wC ar ag ca P G ++ xs) (wC ar ag ca (P') (G') ++ xs) sz (some (.int res))) 0 0 (AL (wC ar ag ca P G ++ xs) sz) := by
  refine met_z (by decide +kernel) (Nat.le_of_ble_eq_true rfl) (fun p e s m args below meth c K hr0 hZ X hsz ls hl => ?_)
  have K : MC D ca p s m args meth c cX7_sweep 7 RX7 := K
  have hx := K.1
  have hb := K.2.1
  have hl : lv_has ls 7 [(0, .ref (ag 0)), (1, .int a1), (2, .int a2), (3, .int a3)] := hl
  generalize hQ : MQ below _ args s 0 0 _ = Q
  unfold f_X7_sweep at h0
  suffices Z : ∀ (H : Heap) (locs : List Loc) (X : RW D (wC ar ag ca P G ++ xs) s.heap H locs), W p l e rm_X7_sweep s m args below meth c H locs 0 0 Q (F0 m 0 ls []) from Z _ _ X
  intro H locs X
  have J90 : ∀ (y90_l5 : Int32) (P_90 : RowsS) (G_90 : GlbS) (H : Heap) (locs : List Loc) (X : RW D (wC ar ag ca P_90 G_90 ++ xs) s.heap H locs) (ls : Array Slot) (hl : lv_has ls 7 [(5, .int y90_l5)]) (h0 : b_X7_sweep_90 y90_l5 P_90 G_90 = some (res, P', G')), W p l e rm_X7_sweep s m args below meth c H locs 0 0 Q (F0 m 90 ls []) := by
    intro y90_l5 P_90 G_90 H locs X ls hl h0
    unfold b_X7_sweep_90 at h0
    refine lv_iload hx hb dX7_sweep_90 (lv_at hl 0 rfl) ?_
    have h0 := Option.some.inj h0
    obtain ⟨q_0, h0⟩ := Prod.mk.inj h0
    obtain ⟨q_1, q_2⟩ := Prod.mk.inj h0
    subst q_0
    subst q_1
    subst q_2
    subst hQ
    exact w_iret K hr0 X wC_fstx hsz dX7_sweep_92
  refine lv_aload_n hx hb dX7_sweep_0 rfl (lv_at hl 0 rfl) ?_
  refine lv_iload_n hx hb dX7_sweep_1 rfl (lv_at hl 1 rfl) ?_
  obtain ⟨x1, ex1, h0⟩ := ob_out h0
  have kx1 := m_X7_requirePoint l D ca ar ag z P G xs a1  ex1 H.size
  refine z_callV K hZ X wC_fstx wC_fstx kx1 hl.1 1 q732 q734 q14 q16 q735 hv_X7_requirePoint ⟨⟨Nat.le_of_ble_eq_true rfl, Nat.le_of_ble_eq_true rfl⟩, rfl, rfl⟩ (z_recvw K X (pl_glb (k := 0) (by decide)) rfl rfl) rfl rfl (Nat.le_of_ble_eq_true rfl) dX7_sweep_2 ⟨Nat.le_of_ble_eq_true rfl, Nat.le_of_ble_eq_true rfl⟩ rfl (fun H locs X => ?_)
  refine lv_iload_n hx hb dX7_sweep_5 rfl (lv_at hl 2 rfl) ?_
  refine lv_iconst (v := 0) hx hb dX7_sweep_6 (by decide) ?_
  refine lv_ldc hx hb K.2.2.2.1 (K.2.2.2.2.1 _ q778) dX7_sweep_7 ?_
  obtain ⟨x2, ex2, h0⟩ := ob_out h0
  have kx2 := m_X7_requireWithin l D ca z (wC ar ag ca P G ++ xs) a2 0 99999  ex2 H.size
  refine z_callS K hZ X wC_fstx wC_fstx kx2 hl.1 3 q402 q403 q16 q404 hs_X7_requireWithin ⟨⟨Nat.le_of_ble_eq_true rfl, Nat.le_of_ble_eq_true rfl⟩, rfl, rfl⟩ rfl rfl (Nat.le_of_ble_eq_true rfl) dX7_sweep_9 ⟨Nat.le_of_ble_eq_true rfl, Nat.le_of_ble_eq_true rfl⟩ rfl (fun H locs X => ?_)
  refine lv_iload_n hx hb dX7_sweep_12 rfl (lv_at hl 3 rfl) ?_
  refine lv_iconst (v := 1) hx hb dX7_sweep_13 (by decide) ?_
  refine lv_bipush (v := 50) hx hb dX7_sweep_14 (by decide) ?_
  obtain ⟨x3, ex3, h0⟩ := ob_out h0
  have kx3 := m_X7_requireWithin l D ca z (wC ar ag ca P G ++ xs) a3 1 50  ex3 H.size
  refine z_callS K hZ X wC_fstx wC_fstx kx3 hl.1 3 q402 q403 q16 q404 hs_X7_requireWithin ⟨⟨Nat.le_of_ble_eq_true rfl, Nat.le_of_ble_eq_true rfl⟩, rfl, rfl⟩ rfl rfl (Nat.le_of_ble_eq_true rfl) dX7_sweep_16 ⟨Nat.le_of_ble_eq_true rfl, Nat.le_of_ble_eq_true rfl⟩ rfl (fun H locs X => ?_)
  refine lv_aload_n hx hb dX7_sweep_19 rfl (lv_at hl 0 rfl) ?_
  refine g_objr K X 3 (by decide) rfl q277 dX7_sweep_20 ?_
  refine lv_aload_n hx hb dX7_sweep_23 rfl (lv_at hl 0 rfl) ?_
  refine g_objr K X 0 (by decide) rfl q274 dX7_sweep_24 ?_
  obtain ⟨x4, ex4, h0⟩ := ob_out h0
  obtain ⟨Pv5, ePv5, h0⟩ := lt_out h0
  obtain ⟨Gv6, eGv6, h0⟩ := lt_out h0
  have kx4 := m_X0_keep l D ca ar ag n P G xs 0 (by decide) x4.1 x4.2 ex4 H.size
  rw [← ePv5, ← eGv6] at kx4
  refine w_callV0 K X wC_fstx kx4 hl.1 1 q779 q780 q781 q20 q782 hv_X0_keep ⟨⟨Nat.le_of_ble_eq_true rfl, Nat.le_of_ble_eq_true rfl⟩, rfl, rfl⟩ (pl_glb (k := 1) (by decide)) rfl rfl rfl rfl (Nat.le_of_ble_eq_true rfl) dX7_sweep_27 ⟨Nat.le_of_ble_eq_true rfl, Nat.le_of_ble_eq_true rfl⟩ rfl (fun H locs X => ?_)
  refine lv_aload_n hx hb dX7_sweep_30 rfl (lv_at hl 0 rfl) ?_
  refine g_objr K X 0 (by decide) rfl q274 dX7_sweep_31 ?_
  refine lv_iload_n hx hb dX7_sweep_34 rfl (lv_at hl 1 rfl) ?_
  obtain ⟨x7, ex7, h0⟩ := lt_out h0
  have kx7 := mC_X3_pressureAt l D ca ar ag Pv5 0 Gv6 xs (by decide) a1 x7 ex7.symm H.size
  refine w_callV0 K X wC_fstx kx7 hl.1 1 q737 q601 q602 q17 q603 hv_X3_pressureAt ⟨⟨Nat.le_of_ble_eq_true rfl, Nat.le_of_ble_eq_true rfl⟩, rfl, rfl⟩ (pl_rowo (by decide)) rfl rfl rfl rfl (Nat.le_of_ble_eq_true rfl) dX7_sweep_35 ⟨Nat.le_of_ble_eq_true rfl, Nat.le_of_ble_eq_true rfl⟩ rfl (fun H locs X => ?_)
  refine lv_istore (lv' := [(4, .int x7), (0, .ref (ag 0)), (1, .int a1), (2, .int a2), (3, .int a3)]) hx hb dX7_sweep_38 hl (by decide) rfl (fun ls hl => ?_)
  refine lv_iconst (v := 0) hx hb dX7_sweep_40 (by decide) ?_
  refine lv_istore (lv' := [(5, .int 0), (4, .int x7), (0, .ref (ag 0)), (1, .int a1), (2, .int a2), (3, .int a3)]) hx hb dX7_sweep_41 hl (by decide) rfl (fun ls hl => ?_)
  refine lv_iconst (v := 1) hx hb dX7_sweep_43 (by decide) ?_
  refine lv_istore (lv' := [(6, .int 1), (5, .int 0), (4, .int x7), (0, .ref (ag 0)), (1, .int a1), (2, .int a2), (3, .int a3)]) hx hb dX7_sweep_44 hl (by decide) rfl (fun ls hl => ?_)
  obtain ⟨e_1, he1, h0⟩ := ob_out h0
  have K46 : ∀ (k : Nat) (z46_5 : Int32) (z46_6 : Int32) (Pz_46 : RowsS) (H : Heap) (locs : List Loc) (X : RW D (wC ar ag ca Pz_46 Gv6 ++ xs) s.heap H locs) (ls : Array Slot) (hl : lv_has ls 7 [(0, .ref (ag 0)), (1, .int a1), (2, .int a2), (3, .int a3), (4, .int x7), (5, .int z46_5), (6, .int z46_6)]) (hw : wloop (fun t => l_X7_sweep_46 n a1 a2 a3 x7 t.1 t.2.1 t.2.2) k (z46_5, z46_6, Pz_46) = some e_1), W p l e rm_X7_sweep s m args below meth c H locs 0 0 Q (F0 m 46 ls []) := by
    intro k
    induction k with
    | zero => intro z46_5 z46_6 Pz_46 H locs X ls hl hw; exact (wloop_0 hw).elim
    | succ k ih1 =>
      intro z46_5 z46_6 Pz_46 H locs X ls hl hw
      obtain ⟨x_1, h1, hx1⟩ := wloop_out hw
      have h1 : l_X7_sweep_46 n a1 a2 a3 x7 z46_5 z46_6 Pz_46 = some x_1 := h1
      unfold l_X7_sweep_46 at h1
      refine lv_iload hx hb dX7_sweep_46 (lv_at hl 6 rfl) ?_
      refine lv_iload_n hx hb dX7_sweep_48 rfl (lv_at hl 3 rfl) ?_
      refine lv_icmp_gt (tgt := 90) hx hb dX7_sweep_49 (by decide) (fun c8 => ?_) (fun c8 => ?_)
      · have h1 := if_t c8 h1
        have q1 := wl_r h1 hx1
        exact J90 z46_5 Pz_46 Gv6 H locs X ls (lv_sub hl [5] rfl) (by rw [q1] at h0; exact h0)
      · have h1 := if_f c8 h1
        refine lv_aload_n hx hb dX7_sweep_52 rfl (lv_at hl 0 rfl) ?_
        refine g_objr K X 0 (by decide) rfl q274 dX7_sweep_53 ?_
        refine lv_iload_n hx hb dX7_sweep_56 rfl (lv_at hl 1 rfl) ?_
        refine lv_iload hx hb dX7_sweep_57 (lv_at hl 4 rfl) ?_
        refine lv_iload_n hx hb dX7_sweep_59 rfl (lv_at hl 2 rfl) ?_
        refine lv_iload hx hb dX7_sweep_60 (lv_at hl 4 rfl) ?_
        refine lv_isub hx hb dX7_sweep_62 ?_
        refine lv_iload hx hb dX7_sweep_63 (lv_at hl 6 rfl) ?_
        refine lv_imul hx hb dX7_sweep_65 ?_
        refine lv_iload_n hx hb dX7_sweep_66 rfl (lv_at hl 3 rfl) ?_
        obtain ⟨c9, h1⟩ := if_o h1
        refine lv_idiv hx hb dX7_sweep_67 c9 ?_
        refine lv_iadd hx hb dX7_sweep_68 ?_
        obtain ⟨x10, ex10, h1⟩ := lt_out h1
        obtain ⟨Pv11, ePv11, h1⟩ := lt_out h1
        have kx10 := mC_X3_press l D ca ar ag Pz_46 0 Gv6 xs (by decide) a1 (x7 + (((a2 - x7) * z46_6) / a3)) x10 ex10.symm H.size
        rw [← ePv11] at kx10
        refine w_callV0 K X wC_fstx kx10 hl.1 2 q787 q589 q590 q17 q591 hv_X3_press ⟨⟨Nat.le_of_ble_eq_true rfl, Nat.le_of_ble_eq_true rfl⟩, rfl, rfl⟩ (pl_rowo (by decide)) rfl rfl rfl rfl (Nat.le_of_ble_eq_true rfl) dX7_sweep_69 ⟨Nat.le_of_ble_eq_true rfl, Nat.le_of_ble_eq_true rfl⟩ rfl (fun H locs X => ?_)
        refine lv_iload hx hb dX7_sweep_72 (lv_at hl 5 rfl) ?_
        refine lv_aload_n hx hb dX7_sweep_74 rfl (lv_at hl 0 rfl) ?_
        refine g_objr K X 0 (by decide) rfl q274 dX7_sweep_75 ?_
        obtain ⟨x12, ex12, h1⟩ := ob_out h1
        obtain ⟨Pv13, ePv13, h1⟩ := lt_out h1
        have kx12 := mC_X3_settle l D ca ar ag n Pv11 0 Gv6 xs (by decide) x12.1 x12.2 ex12 H.size
        rw [← ePv13] at kx12
        refine w_callV0 K X wC_fstx kx12 hl.1 0 q614 q615 q616 q17 q617 hv_X3_settle ⟨⟨Nat.le_of_ble_eq_true rfl, Nat.le_of_ble_eq_true rfl⟩, rfl, rfl⟩ (pl_rowo (by decide)) rfl rfl rfl rfl (Nat.le_of_ble_eq_true rfl) dX7_sweep_78 ⟨Nat.le_of_ble_eq_true rfl, Nat.le_of_ble_eq_true rfl⟩ rfl (fun H locs X => ?_)
        refine lv_iadd hx hb dX7_sweep_81 ?_
        obtain ⟨x14, ex14, h1⟩ := lt_out h1
        refine w_int ex14 ?_
        refine lv_istore (lv' := [(5, .int x14), (0, .ref (ag 0)), (1, .int a1), (2, .int a2), (3, .int a3), (4, .int x7), (6, .int z46_6)]) hx hb dX7_sweep_82 hl (by decide) rfl (fun ls hl => ?_)
        obtain ⟨x15, ex15, h1⟩ := lt_out h1
        refine lv_iinc (v := x15) (lv' := [(6, .int x15), (5, .int x14), (0, .ref (ag 0)), (1, .int a1), (2, .int a2), (3, .int a3), (4, .int x7)]) hx hb dX7_sweep_84 hl (k := 6) rfl (by rw [ex15]; rfl) (by decide) rfl (fun ls hl => ?_)
        refine lv_goto (tgt := 46) hx hb dX7_sweep_87 (by decide) ?_
        exact ih1 x14 x15 Pv13 H locs X ls (lv_sub hl [2, 3, 4, 5, 6, 1, 0] rfl) (wl_l h1 hx1)
  exact K46 n 0 1 Pv5 H locs X ls (lv_sub hl [3, 4, 5, 6, 2, 1, 0] rfl) he1
-- X7_setSlant
def f_X7_setSlant (n : Nat) (P : RowsS) (G : GlbS) (a1 : Int32) (a2 : Int32) : Option (Int32 × RowsS × GlbS) :=
  ob (f_X7_requireTube P G a1) fun x1 =>
  ob (f_X7_requireWithin a2 50 1000) fun x2 =>
  ob (f_X0_keep n P G 0) fun x3 =>
  lt (x3.1) fun Pv4 =>
  lt (x3.2) fun Gv5 =>
  lt (f_X3_tubeAt (Pv4 0) a1) fun x6 =>
  lt (x6) fun j7 =>
  lt (va_up Pv4 0 (si (Pv4 0) (j7 + 5) 3 a2)) fun Pv8 =>
  ob (f_X3_settle n (Pv8 0)) fun x9 =>
  lt (va_up Pv8 0 x9.2) fun Pv10 =>
  some (x9.1, Pv10, Gv5)
abbrev rm_X7_setSlant : Room := { frames := 6, cells := 0, slots := 0, locals := 166 }
set_option maxRecDepth 100000 in
set_option maxHeartbeats 4000000 in
theorem m_X7_setSlant (l : Launch) (D : va_G) (ca : Nat → ClassId) (ar : Nat → Nat → Nat) (ag : Nat → Nat) (z : ZG) (n : Nat) (P : RowsS) (G : GlbS) (xs : va_W) (a1 : Int32) (a2 : Int32) (res : Int32) (P' : RowsS) (G' : GlbS) (h0 : f_X7_setSlant n P G a1 a2 = some (res, P', G')) (sz : Nat) : Met l yX7_setSlant (ws_ yX7_setSlant cX7_setSlant 3 (some .int)) rm_X7_setSlant (PCz z D ca (wC ar ag ca P G ++ xs) sz [.ref (ag 0), .int a1, .int a2]) (QMw D (wC ar ag ca P G ++ xs) (wC ar ag ca (P') (G') ++ xs) sz (some (.int res))) 0 0 (AL (wC ar ag ca P G ++ xs) sz) := by
  refine met_z (by decide +kernel) (Nat.le_of_ble_eq_true rfl) (fun p e s m args below meth c K hr0 hZ X hsz ls hl => ?_)
  have K : MC D ca p s m args meth c cX7_setSlant 3 RX7 := K
  have hx := K.1
  have hb := K.2.1
  have hl : lv_has ls 3 [(0, .ref (ag 0)), (1, .int a1), (2, .int a2)] := hl
  generalize hQ : MQ below _ args s 0 0 _ = Q
  unfold f_X7_setSlant at h0
  suffices Z : ∀ (H : Heap) (locs : List Loc) (X : RW D (wC ar ag ca P G ++ xs) s.heap H locs), W p l e rm_X7_setSlant s m args below meth c H locs 0 0 Q (F0 m 0 ls []) from Z _ _ X
  intro H locs X
  refine lv_aload_n hx hb dX7_setSlant_0 rfl (lv_at hl 0 rfl) ?_
  refine lv_iload_n hx hb dX7_setSlant_1 rfl (lv_at hl 1 rfl) ?_
  obtain ⟨x1, ex1, h0⟩ := ob_out h0
  have kx1 := m_X7_requireTube l D ca ar ag z P G xs a1  ex1 H.size
  refine z_callV K hZ X wC_fstx wC_fstx kx1 hl.1 1 q714 q716 q13 q16 q717 hv_X7_requireTube ⟨⟨Nat.le_of_ble_eq_true rfl, Nat.le_of_ble_eq_true rfl⟩, rfl, rfl⟩ (z_recvw K X (pl_glb (k := 0) (by decide)) rfl rfl) rfl rfl (Nat.le_of_ble_eq_true rfl) dX7_setSlant_2 ⟨Nat.le_of_ble_eq_true rfl, Nat.le_of_ble_eq_true rfl⟩ rfl (fun H locs X => ?_)
  refine lv_iload_n hx hb dX7_setSlant_5 rfl (lv_at hl 2 rfl) ?_
  refine lv_bipush (v := 50) hx hb dX7_setSlant_6 (by decide) ?_
  refine lv_sipush (v := 1000) hx hb dX7_setSlant_8 (by decide) ?_
  obtain ⟨x2, ex2, h0⟩ := ob_out h0
  have kx2 := m_X7_requireWithin l D ca z (wC ar ag ca P G ++ xs) a2 50 1000  ex2 H.size
  refine z_callS K hZ X wC_fstx wC_fstx kx2 hl.1 3 q402 q403 q16 q404 hs_X7_requireWithin ⟨⟨Nat.le_of_ble_eq_true rfl, Nat.le_of_ble_eq_true rfl⟩, rfl, rfl⟩ rfl rfl (Nat.le_of_ble_eq_true rfl) dX7_setSlant_11 ⟨Nat.le_of_ble_eq_true rfl, Nat.le_of_ble_eq_true rfl⟩ rfl (fun H locs X => ?_)
  refine lv_aload_n hx hb dX7_setSlant_14 rfl (lv_at hl 0 rfl) ?_
  refine g_objr K X 3 (by decide) rfl q277 dX7_setSlant_15 ?_
  refine lv_aload_n hx hb dX7_setSlant_18 rfl (lv_at hl 0 rfl) ?_
  refine g_objr K X 0 (by decide) rfl q274 dX7_setSlant_19 ?_
  obtain ⟨x3, ex3, h0⟩ := ob_out h0
  obtain ⟨Pv4, ePv4, h0⟩ := lt_out h0
  obtain ⟨Gv5, eGv5, h0⟩ := lt_out h0
  have kx3 := m_X0_keep l D ca ar ag n P G xs 0 (by decide) x3.1 x3.2 ex3 H.size
  rw [← ePv4, ← eGv5] at kx3
  refine w_callV0 K X wC_fstx kx3 hl.1 1 q779 q780 q781 q20 q782 hv_X0_keep ⟨⟨Nat.le_of_ble_eq_true rfl, Nat.le_of_ble_eq_true rfl⟩, rfl, rfl⟩ (pl_glb (k := 1) (by decide)) rfl rfl rfl rfl (Nat.le_of_ble_eq_true rfl) dX7_setSlant_22 ⟨Nat.le_of_ble_eq_true rfl, Nat.le_of_ble_eq_true rfl⟩ rfl (fun H locs X => ?_)
  refine lv_aload_n hx hb dX7_setSlant_25 rfl (lv_at hl 0 rfl) ?_
  refine g_objr K X 0 (by decide) rfl q274 dX7_setSlant_26 ?_
  refine lv_iload_n hx hb dX7_setSlant_29 rfl (lv_at hl 1 rfl) ?_
  obtain ⟨x6, ex6, h0⟩ := lt_out h0
  have kx6 := mC_X3_tubeAt l D ca ar ag Pv4 0 Gv5 xs (by decide) a1 x6 ex6.symm H.size
  refine w_callV0 K X wC_fstx kx6 hl.1 1 q756 q575 q576 q17 q577 hv_X3_tubeAt ⟨⟨Nat.le_of_ble_eq_true rfl, Nat.le_of_ble_eq_true rfl⟩, rfl, rfl⟩ (pl_rowo (by decide)) rfl rfl rfl rfl (Nat.le_of_ble_eq_true rfl) dX7_setSlant_30 ⟨Nat.le_of_ble_eq_true rfl, Nat.le_of_ble_eq_true rfl⟩ rfl (fun H locs X => ?_)
  obtain ⟨j7, ej7, h0⟩ := lt_out h0
  rw [← ej7]
  have hj7 : j7 < 13 := by rw [ej7]; exact lt_X3_tubeAt ex6
  refine lv_iload_n hx hb dX7_setSlant_33 rfl (lv_at hl 2 rfl) ?_
  obtain ⟨Pv8, ePv8, h0⟩ := lt_out h0
  refine p_tube K X (by decide) hj7 3 (by decide) ePv8.symm q106 dX7_setSlant_34 (fun H locs X => ?_)
  refine lv_aload_n hx hb dX7_setSlant_37 rfl (lv_at hl 0 rfl) ?_
  refine g_objr K X 0 (by decide) rfl q274 dX7_setSlant_38 ?_
  obtain ⟨x9, ex9, h0⟩ := ob_out h0
  obtain ⟨Pv10, ePv10, h0⟩ := lt_out h0
  have kx9 := mC_X3_settle l D ca ar ag n Pv8 0 Gv5 xs (by decide) x9.1 x9.2 ex9 H.size
  rw [← ePv10] at kx9
  refine w_callV0 K X wC_fstx kx9 hl.1 0 q614 q615 q616 q17 q617 hv_X3_settle ⟨⟨Nat.le_of_ble_eq_true rfl, Nat.le_of_ble_eq_true rfl⟩, rfl, rfl⟩ (pl_rowo (by decide)) rfl rfl rfl rfl (Nat.le_of_ble_eq_true rfl) dX7_setSlant_41 ⟨Nat.le_of_ble_eq_true rfl, Nat.le_of_ble_eq_true rfl⟩ rfl (fun H locs X => ?_)
  have h0 := Option.some.inj h0
  obtain ⟨q_0, h0⟩ := Prod.mk.inj h0
  obtain ⟨q_1, q_2⟩ := Prod.mk.inj h0
  subst q_0
  subst q_1
  subst q_2
  subst hQ
  exact w_iret K hr0 X wC_fstx hsz dX7_setSlant_44
-- X7_setMark
def f_X7_setMark (n : Nat) (P : RowsS) (G : GlbS) (a1 : Int32) : Option (Int32 × RowsS × GlbS) :=
  ob (f_X7_requireTube P G a1) fun x1 =>
  lt (f_X3_tubeAt (P 0) a1) fun x2 =>
  lt (x2) fun j3 =>
  if ((P 0).1 (j3 + 5) 6) = 0 then
    lt (-(((P 0).1 (j3 + 5) 9) / 10)) fun x5 =>
    if (-9999) ≤ x5 then
      ob (f_X0_keep n P G 0) fun x7 =>
      lt (x7.1) fun Pv8 =>
      lt (x7.2) fun Gv9 =>
      lt (va_up Pv8 0 (si (Pv8 0) (j3 + 5) 5 x5)) fun Pv10 =>
      some (x5, Pv10, Gv9)
    else
      some ((-1000000001), P, G)
  else
    some ((-1000000000), P, G)
abbrev rm_X7_setMark : Room := { frames := 4, cells := 0, slots := 0, locals := 88 }
set_option maxRecDepth 100000 in
set_option maxHeartbeats 4000000 in
theorem m_X7_setMark (l : Launch) (D : va_G) (ca : Nat → ClassId) (ar : Nat → Nat → Nat) (ag : Nat → Nat) (z : ZG) (n : Nat) (P : RowsS) (G : GlbS) (xs : va_W) (a1 : Int32) (res : Int32) (P' : RowsS) (G' : GlbS) (h0 : f_X7_setMark n P G a1 = some (res, P', G')) (sz : Nat) : Met l yX7_setMark (ws_ yX7_setMark cX7_setMark 4 (some .int)) rm_X7_setMark (PCz z D ca (wC ar ag ca P G ++ xs) sz [.ref (ag 0), .int a1]) (QMw D (wC ar ag ca P G ++ xs) (wC ar ag ca (P') (G') ++ xs) sz (some (.int res))) 0 0 (AL (wC ar ag ca P G ++ xs) sz) := by
  refine met_z (by decide +kernel) (Nat.le_of_ble_eq_true rfl) (fun p e s m args below meth c K hr0 hZ X hsz ls hl => ?_)
  have K : MC D ca p s m args meth c cX7_setMark 4 RX7 := K
  have hx := K.1
  have hb := K.2.1
  have hl : lv_has ls 4 [(0, .ref (ag 0)), (1, .int a1)] := hl
  generalize hQ : MQ below _ args s 0 0 _ = Q
  unfold f_X7_setMark at h0
  suffices Z : ∀ (H : Heap) (locs : List Loc) (X : RW D (wC ar ag ca P G ++ xs) s.heap H locs), W p l e rm_X7_setMark s m args below meth c H locs 0 0 Q (F0 m 0 ls []) from Z _ _ X
  intro H locs X
  refine lv_aload_n hx hb dX7_setMark_0 rfl (lv_at hl 0 rfl) ?_
  refine lv_iload_n hx hb dX7_setMark_1 rfl (lv_at hl 1 rfl) ?_
  obtain ⟨x1, ex1, h0⟩ := ob_out h0
  have kx1 := m_X7_requireTube l D ca ar ag z P G xs a1  ex1 H.size
  refine z_callV K hZ X wC_fstx wC_fstx kx1 hl.1 1 q714 q716 q13 q16 q717 hv_X7_requireTube ⟨⟨Nat.le_of_ble_eq_true rfl, Nat.le_of_ble_eq_true rfl⟩, rfl, rfl⟩ (z_recvw K X (pl_glb (k := 0) (by decide)) rfl rfl) rfl rfl (Nat.le_of_ble_eq_true rfl) dX7_setMark_2 ⟨Nat.le_of_ble_eq_true rfl, Nat.le_of_ble_eq_true rfl⟩ rfl (fun H locs X => ?_)
  refine lv_aload_n hx hb dX7_setMark_5 rfl (lv_at hl 0 rfl) ?_
  refine g_objr K X 0 (by decide) rfl q274 dX7_setMark_6 ?_
  refine lv_iload_n hx hb dX7_setMark_9 rfl (lv_at hl 1 rfl) ?_
  obtain ⟨x2, ex2, h0⟩ := lt_out h0
  have kx2 := mC_X3_tubeAt l D ca ar ag P 0 G xs (by decide) a1 x2 ex2.symm H.size
  refine w_callV0 K X wC_fstx kx2 hl.1 1 q756 q575 q576 q17 q577 hv_X3_tubeAt ⟨⟨Nat.le_of_ble_eq_true rfl, Nat.le_of_ble_eq_true rfl⟩, rfl, rfl⟩ (pl_rowo (by decide)) rfl rfl rfl rfl (Nat.le_of_ble_eq_true rfl) dX7_setMark_10 ⟨Nat.le_of_ble_eq_true rfl, Nat.le_of_ble_eq_true rfl⟩ rfl (fun H locs X => ?_)
  obtain ⟨j3, ej3, h0⟩ := lt_out h0
  rw [← ej3]
  have hj3 : j3 < 13 := by rw [ej3]; exact lt_X3_tubeAt ex2
  refine lv_astore_n (lv' := [(2, .ref (ar 0 (j3 + 5))), (0, .ref (ag 0)), (1, .int a1)]) hx hb dX7_setMark_13 rfl hl (by decide) rfl (fun ls hl => ?_)
  refine lv_aload_n hx hb dX7_setMark_14 rfl (lv_at hl 0 rfl) ?_
  refine g_tube K X (by decide) hj3 rfl 6 (by decide) q115 dX7_setMark_15 ?_
  refine lv_if_eq (tgt := 24) hx hb dX7_setMark_18 (by decide) (fun c4 => ?_) (fun c4 => ?_)
  · have h0 := if_t c4 h0
    refine lv_aload_n hx hb dX7_setMark_24 rfl (lv_at hl 0 rfl) ?_
    refine g_tube K X (by decide) hj3 rfl 9 (by decide) q122 dX7_setMark_25 ?_
    refine lv_bipush (v := 10) hx hb dX7_setMark_28 (by decide) ?_
    refine lv_idiv hx hb dX7_setMark_30 (by decide) ?_
    refine lv_ineg hx hb dX7_setMark_31 ?_
    obtain ⟨x5, ex5, h0⟩ := lt_out h0
    refine w_int ex5 ?_
    refine lv_istore_n (lv' := [(3, .int x5), (2, .ref (ar 0 (j3 + 5))), (0, .ref (ag 0)), (1, .int a1)]) hx hb dX7_setMark_32 rfl hl (by decide) rfl (fun ls hl => ?_)
    refine lv_iload_n hx hb dX7_setMark_33 rfl (lv_at hl 0 rfl) ?_
    refine lv_sipush (v := (-9999)) hx hb dX7_setMark_34 (by decide) ?_
    refine lv_icmp_ge (tgt := 43) hx hb dX7_setMark_37 (by decide) (fun c6 => ?_) (fun c6 => ?_)
    · have h0 := if_t c6 h0
      refine lv_aload_n hx hb dX7_setMark_43 rfl (lv_at hl 2 rfl) ?_
      refine g_objr K X 3 (by decide) rfl q277 dX7_setMark_44 ?_
      refine lv_aload_n hx hb dX7_setMark_47 rfl (lv_at hl 2 rfl) ?_
      refine g_objr K X 0 (by decide) rfl q274 dX7_setMark_48 ?_
      obtain ⟨x7, ex7, h0⟩ := ob_out h0
      obtain ⟨Pv8, ePv8, h0⟩ := lt_out h0
      obtain ⟨Gv9, eGv9, h0⟩ := lt_out h0
      have kx7 := m_X0_keep l D ca ar ag n P G xs 0 (by decide) x7.1 x7.2 ex7 H.size
      rw [← ePv8, ← eGv9] at kx7
      refine w_callV0 K X wC_fstx kx7 hl.1 1 q779 q780 q781 q20 q782 hv_X0_keep ⟨⟨Nat.le_of_ble_eq_true rfl, Nat.le_of_ble_eq_true rfl⟩, rfl, rfl⟩ (pl_glb (k := 1) (by decide)) rfl rfl rfl rfl (Nat.le_of_ble_eq_true rfl) dX7_setMark_51 ⟨Nat.le_of_ble_eq_true rfl, Nat.le_of_ble_eq_true rfl⟩ rfl (fun H locs X => ?_)
      refine lv_aload_n hx hb dX7_setMark_54 rfl (lv_at hl 1 rfl) ?_
      refine lv_iload_n hx hb dX7_setMark_55 rfl (lv_at hl 0 rfl) ?_
      obtain ⟨Pv10, ePv10, h0⟩ := lt_out h0
      refine p_tube K X (by decide) hj3 5 (by decide) ePv10.symm q112 dX7_setMark_56 (fun H locs X => ?_)
      refine lv_iload_n hx hb dX7_setMark_59 rfl (lv_at hl 0 rfl) ?_
      have h0 := Option.some.inj h0
      obtain ⟨q_0, h0⟩ := Prod.mk.inj h0
      obtain ⟨q_1, q_2⟩ := Prod.mk.inj h0
      subst q_0
      subst q_1
      subst q_2
      subst hQ
      exact w_iret K hr0 X wC_fstx hsz dX7_setMark_60
    · have h0 := if_f c6 h0
      refine lv_ldc hx hb K.2.2.2.1 (K.2.2.2.2.1 _ q807) dX7_setMark_40 ?_
      have h0 := Option.some.inj h0
      obtain ⟨q_0, h0⟩ := Prod.mk.inj h0
      obtain ⟨q_1, q_2⟩ := Prod.mk.inj h0
      subst q_0
      subst q_1
      subst q_2
      subst hQ
      exact w_iret K hr0 X wC_fstx hsz dX7_setMark_42
  · have h0 := if_f c4 h0
    refine lv_ldc hx hb K.2.2.2.1 (K.2.2.2.2.1 _ q806) dX7_setMark_21 ?_
    have h0 := Option.some.inj h0
    obtain ⟨q_0, h0⟩ := Prod.mk.inj h0
    obtain ⟨q_1, q_2⟩ := Prod.mk.inj h0
    subst q_0
    subst q_1
    subst q_2
    subst hQ
    exact w_iret K hr0 X wC_fstx hsz dX7_setMark_23
-- X7_setCurve
def f_X7_setCurve (n : Nat) (P : RowsS) (G : GlbS) (a1 : Int32) (a2 : Int32) : Option (Int32 × RowsS × GlbS) :=
  ob (f_X7_requireLeg a1) fun x1 =>
  ob (f_X7_requireWithin a2 (-9999) 9999) fun x2 =>
  ob (f_X0_keep n P G 0) fun x3 =>
  lt (x3.1) fun Pv4 =>
  lt (x3.2) fun Gv5 =>
  lt (f_X3_legAt (Pv4 0) a1) fun x6 =>
  lt (x6) fun j7 =>
  lt (va_up Pv4 0 (si (Pv4 0) (j7 + 2) 2 a2)) fun Pv8 =>
  ob (f_X3_settle n (Pv8 0)) fun x9 =>
  lt (va_up Pv8 0 x9.2) fun Pv10 =>
  some (x9.1, Pv10, Gv5)
abbrev rm_X7_setCurve : Room := { frames := 6, cells := 0, slots := 0, locals := 166 }
set_option maxRecDepth 100000 in
set_option maxHeartbeats 4000000 in
theorem m_X7_setCurve (l : Launch) (D : va_G) (ca : Nat → ClassId) (ar : Nat → Nat → Nat) (ag : Nat → Nat) (z : ZG) (n : Nat) (P : RowsS) (G : GlbS) (xs : va_W) (a1 : Int32) (a2 : Int32) (res : Int32) (P' : RowsS) (G' : GlbS) (h0 : f_X7_setCurve n P G a1 a2 = some (res, P', G')) (sz : Nat) : Met l yX7_setCurve (ws_ yX7_setCurve cX7_setCurve 3 (some .int)) rm_X7_setCurve (PCz z D ca (wC ar ag ca P G ++ xs) sz [.ref (ag 0), .int a1, .int a2]) (QMw D (wC ar ag ca P G ++ xs) (wC ar ag ca (P') (G') ++ xs) sz (some (.int res))) 0 0 (AL (wC ar ag ca P G ++ xs) sz) := by
  refine met_z (by decide +kernel) (Nat.le_of_ble_eq_true rfl) (fun p e s m args below meth c K hr0 hZ X hsz ls hl => ?_)
  have K : MC D ca p s m args meth c cX7_setCurve 3 RX7 := K
  have hx := K.1
  have hb := K.2.1
  have hl : lv_has ls 3 [(0, .ref (ag 0)), (1, .int a1), (2, .int a2)] := hl
  generalize hQ : MQ below _ args s 0 0 _ = Q
  unfold f_X7_setCurve at h0
  suffices Z : ∀ (H : Heap) (locs : List Loc) (X : RW D (wC ar ag ca P G ++ xs) s.heap H locs), W p l e rm_X7_setCurve s m args below meth c H locs 0 0 Q (F0 m 0 ls []) from Z _ _ X
  intro H locs X
  refine lv_iload_n hx hb dX7_setCurve_0 rfl (lv_at hl 1 rfl) ?_
  obtain ⟨x1, ex1, h0⟩ := ob_out h0
  have kx1 := m_X7_requireLeg l D ca z (wC ar ag ca P G ++ xs) a1  ex1 H.size
  refine z_callS K hZ X wC_fstx wC_fstx kx1 hl.1 1 q742 q743 q16 q744 hs_X7_requireLeg ⟨⟨Nat.le_of_ble_eq_true rfl, Nat.le_of_ble_eq_true rfl⟩, rfl, rfl⟩ rfl rfl (Nat.le_of_ble_eq_true rfl) dX7_setCurve_1 ⟨Nat.le_of_ble_eq_true rfl, Nat.le_of_ble_eq_true rfl⟩ rfl (fun H locs X => ?_)
  refine lv_iload_n hx hb dX7_setCurve_4 rfl (lv_at hl 2 rfl) ?_
  refine lv_sipush (v := (-9999)) hx hb dX7_setCurve_5 (by decide) ?_
  refine lv_sipush (v := 9999) hx hb dX7_setCurve_8 (by decide) ?_
  obtain ⟨x2, ex2, h0⟩ := ob_out h0
  have kx2 := m_X7_requireWithin l D ca z (wC ar ag ca P G ++ xs) a2 (-9999) 9999  ex2 H.size
  refine z_callS K hZ X wC_fstx wC_fstx kx2 hl.1 3 q402 q403 q16 q404 hs_X7_requireWithin ⟨⟨Nat.le_of_ble_eq_true rfl, Nat.le_of_ble_eq_true rfl⟩, rfl, rfl⟩ rfl rfl (Nat.le_of_ble_eq_true rfl) dX7_setCurve_11 ⟨Nat.le_of_ble_eq_true rfl, Nat.le_of_ble_eq_true rfl⟩ rfl (fun H locs X => ?_)
  refine lv_aload_n hx hb dX7_setCurve_14 rfl (lv_at hl 0 rfl) ?_
  refine g_objr K X 3 (by decide) rfl q277 dX7_setCurve_15 ?_
  refine lv_aload_n hx hb dX7_setCurve_18 rfl (lv_at hl 0 rfl) ?_
  refine g_objr K X 0 (by decide) rfl q274 dX7_setCurve_19 ?_
  obtain ⟨x3, ex3, h0⟩ := ob_out h0
  obtain ⟨Pv4, ePv4, h0⟩ := lt_out h0
  obtain ⟨Gv5, eGv5, h0⟩ := lt_out h0
  have kx3 := m_X0_keep l D ca ar ag n P G xs 0 (by decide) x3.1 x3.2 ex3 H.size
  rw [← ePv4, ← eGv5] at kx3
  refine w_callV0 K X wC_fstx kx3 hl.1 1 q779 q780 q781 q20 q782 hv_X0_keep ⟨⟨Nat.le_of_ble_eq_true rfl, Nat.le_of_ble_eq_true rfl⟩, rfl, rfl⟩ (pl_glb (k := 1) (by decide)) rfl rfl rfl rfl (Nat.le_of_ble_eq_true rfl) dX7_setCurve_22 ⟨Nat.le_of_ble_eq_true rfl, Nat.le_of_ble_eq_true rfl⟩ rfl (fun H locs X => ?_)
  refine lv_aload_n hx hb dX7_setCurve_25 rfl (lv_at hl 0 rfl) ?_
  refine g_objr K X 0 (by decide) rfl q274 dX7_setCurve_26 ?_
  refine lv_iload_n hx hb dX7_setCurve_29 rfl (lv_at hl 1 rfl) ?_
  obtain ⟨x6, ex6, h0⟩ := lt_out h0
  have kx6 := mC_X3_legAt l D ca ar ag Pv4 0 Gv5 xs (by decide) a1 x6 ex6.symm H.size
  refine w_callV0 K X wC_fstx kx6 hl.1 1 q746 q555 q556 q17 q557 hv_X3_legAt ⟨⟨Nat.le_of_ble_eq_true rfl, Nat.le_of_ble_eq_true rfl⟩, rfl, rfl⟩ (pl_rowo (by decide)) rfl rfl rfl rfl (Nat.le_of_ble_eq_true rfl) dX7_setCurve_30 ⟨Nat.le_of_ble_eq_true rfl, Nat.le_of_ble_eq_true rfl⟩ rfl (fun H locs X => ?_)
  obtain ⟨j7, ej7, h0⟩ := lt_out h0
  rw [← ej7]
  have hj7 : j7 < 2 := by rw [ej7]; exact lt_X3_legAt ex6
  refine lv_iload_n hx hb dX7_setCurve_33 rfl (lv_at hl 2 rfl) ?_
  obtain ⟨Pv8, ePv8, h0⟩ := lt_out h0
  refine p_legi K X (by decide) hj7 2 (by decide) ePv8.symm q62 dX7_setCurve_34 (fun H locs X => ?_)
  refine lv_aload_n hx hb dX7_setCurve_37 rfl (lv_at hl 0 rfl) ?_
  refine g_objr K X 0 (by decide) rfl q274 dX7_setCurve_38 ?_
  obtain ⟨x9, ex9, h0⟩ := ob_out h0
  obtain ⟨Pv10, ePv10, h0⟩ := lt_out h0
  have kx9 := mC_X3_settle l D ca ar ag n Pv8 0 Gv5 xs (by decide) x9.1 x9.2 ex9 H.size
  rw [← ePv10] at kx9
  refine w_callV0 K X wC_fstx kx9 hl.1 0 q614 q615 q616 q17 q617 hv_X3_settle ⟨⟨Nat.le_of_ble_eq_true rfl, Nat.le_of_ble_eq_true rfl⟩, rfl, rfl⟩ (pl_rowo (by decide)) rfl rfl rfl rfl (Nat.le_of_ble_eq_true rfl) dX7_setCurve_41 ⟨Nat.le_of_ble_eq_true rfl, Nat.le_of_ble_eq_true rfl⟩ rfl (fun H locs X => ?_)
  have h0 := Option.some.inj h0
  obtain ⟨q_0, h0⟩ := Prod.mk.inj h0
  obtain ⟨q_1, q_2⟩ := Prod.mk.inj h0
  subst q_0
  subst q_1
  subst q_2
  subst hQ
  exact w_iret K hr0 X wC_fstx hsz dX7_setCurve_44
-- X7_mend
def f_X7_mend (n : Nat) (P : RowsS) (G : GlbS) (a1 : Int32) : Option (Int32 × RowsS × GlbS) :=
  ob (f_X7_requireTube P G a1) fun x1 =>
  lt (f_X3_tubeAt (P 0) a1) fun x2 =>
  lt (x2) fun j3 =>
  if ((P 0).1 (j3 + 5) 6) = 0 then
    some ((-2), P, G)
  else
    ob (f_X0_keep n P G 0) fun x5 =>
    lt (x5.1) fun Pv6 =>
    lt (x5.2) fun Gv7 =>
    lt (va_up Pv6 0 (si (Pv6 0) (j3 + 5) 6 0)) fun Pv8 =>
    ob (f_X3_settle n (Pv8 0)) fun x9 =>
    lt (va_up Pv8 0 x9.2) fun Pv10 =>
    some (((Pv10 0).1 (j3 + 5) 6), Pv10, Gv7)
abbrev rm_X7_mend : Room := { frames := 6, cells := 0, slots := 0, locals := 166 }
set_option maxRecDepth 100000 in
set_option maxHeartbeats 4000000 in
theorem m_X7_mend (l : Launch) (D : va_G) (ca : Nat → ClassId) (ar : Nat → Nat → Nat) (ag : Nat → Nat) (z : ZG) (n : Nat) (P : RowsS) (G : GlbS) (xs : va_W) (a1 : Int32) (res : Int32) (P' : RowsS) (G' : GlbS) (h0 : f_X7_mend n P G a1 = some (res, P', G')) (sz : Nat) : Met l yX7_mend (ws_ yX7_mend cX7_mend 3 (some .int)) rm_X7_mend (PCz z D ca (wC ar ag ca P G ++ xs) sz [.ref (ag 0), .int a1]) (QMw D (wC ar ag ca P G ++ xs) (wC ar ag ca (P') (G') ++ xs) sz (some (.int res))) 0 0 (AL (wC ar ag ca P G ++ xs) sz) := by
  refine met_z (by decide +kernel) (Nat.le_of_ble_eq_true rfl) (fun p e s m args below meth c K hr0 hZ X hsz ls hl => ?_)
  have K : MC D ca p s m args meth c cX7_mend 3 RX7 := K
  have hx := K.1
  have hb := K.2.1
  have hl : lv_has ls 3 [(0, .ref (ag 0)), (1, .int a1)] := hl
  generalize hQ : MQ below _ args s 0 0 _ = Q
  unfold f_X7_mend at h0
  suffices Z : ∀ (H : Heap) (locs : List Loc) (X : RW D (wC ar ag ca P G ++ xs) s.heap H locs), W p l e rm_X7_mend s m args below meth c H locs 0 0 Q (F0 m 0 ls []) from Z _ _ X
  intro H locs X
  refine lv_aload_n hx hb dX7_mend_0 rfl (lv_at hl 0 rfl) ?_
  refine lv_iload_n hx hb dX7_mend_1 rfl (lv_at hl 1 rfl) ?_
  obtain ⟨x1, ex1, h0⟩ := ob_out h0
  have kx1 := m_X7_requireTube l D ca ar ag z P G xs a1  ex1 H.size
  refine z_callV K hZ X wC_fstx wC_fstx kx1 hl.1 1 q714 q716 q13 q16 q717 hv_X7_requireTube ⟨⟨Nat.le_of_ble_eq_true rfl, Nat.le_of_ble_eq_true rfl⟩, rfl, rfl⟩ (z_recvw K X (pl_glb (k := 0) (by decide)) rfl rfl) rfl rfl (Nat.le_of_ble_eq_true rfl) dX7_mend_2 ⟨Nat.le_of_ble_eq_true rfl, Nat.le_of_ble_eq_true rfl⟩ rfl (fun H locs X => ?_)
  refine lv_aload_n hx hb dX7_mend_5 rfl (lv_at hl 0 rfl) ?_
  refine g_objr K X 0 (by decide) rfl q274 dX7_mend_6 ?_
  refine lv_iload_n hx hb dX7_mend_9 rfl (lv_at hl 1 rfl) ?_
  obtain ⟨x2, ex2, h0⟩ := lt_out h0
  have kx2 := mC_X3_tubeAt l D ca ar ag P 0 G xs (by decide) a1 x2 ex2.symm H.size
  refine w_callV0 K X wC_fstx kx2 hl.1 1 q756 q575 q576 q17 q577 hv_X3_tubeAt ⟨⟨Nat.le_of_ble_eq_true rfl, Nat.le_of_ble_eq_true rfl⟩, rfl, rfl⟩ (pl_rowo (by decide)) rfl rfl rfl rfl (Nat.le_of_ble_eq_true rfl) dX7_mend_10 ⟨Nat.le_of_ble_eq_true rfl, Nat.le_of_ble_eq_true rfl⟩ rfl (fun H locs X => ?_)
  obtain ⟨j3, ej3, h0⟩ := lt_out h0
  rw [← ej3]
  have hj3 : j3 < 13 := by rw [ej3]; exact lt_X3_tubeAt ex2
  refine lv_astore_n (lv' := [(2, .ref (ar 0 (j3 + 5))), (0, .ref (ag 0)), (1, .int a1)]) hx hb dX7_mend_13 rfl hl (by decide) rfl (fun ls hl => ?_)
  refine lv_aload_n hx hb dX7_mend_14 rfl (lv_at hl 0 rfl) ?_
  refine g_tube K X (by decide) hj3 rfl 6 (by decide) q115 dX7_mend_15 ?_
  refine lv_if_ne (tgt := 24) hx hb dX7_mend_18 (by decide) (fun c4 => ?_) (fun c4 => ?_)
  · have h0 := if_f c4 h0
    refine lv_aload_n hx hb dX7_mend_24 rfl (lv_at hl 1 rfl) ?_
    refine g_objr K X 3 (by decide) rfl q277 dX7_mend_25 ?_
    refine lv_aload_n hx hb dX7_mend_28 rfl (lv_at hl 1 rfl) ?_
    refine g_objr K X 0 (by decide) rfl q274 dX7_mend_29 ?_
    obtain ⟨x5, ex5, h0⟩ := ob_out h0
    obtain ⟨Pv6, ePv6, h0⟩ := lt_out h0
    obtain ⟨Gv7, eGv7, h0⟩ := lt_out h0
    have kx5 := m_X0_keep l D ca ar ag n P G xs 0 (by decide) x5.1 x5.2 ex5 H.size
    rw [← ePv6, ← eGv7] at kx5
    refine w_callV0 K X wC_fstx kx5 hl.1 1 q779 q780 q781 q20 q782 hv_X0_keep ⟨⟨Nat.le_of_ble_eq_true rfl, Nat.le_of_ble_eq_true rfl⟩, rfl, rfl⟩ (pl_glb (k := 1) (by decide)) rfl rfl rfl rfl (Nat.le_of_ble_eq_true rfl) dX7_mend_32 ⟨Nat.le_of_ble_eq_true rfl, Nat.le_of_ble_eq_true rfl⟩ rfl (fun H locs X => ?_)
    refine lv_aload_n hx hb dX7_mend_35 rfl (lv_at hl 0 rfl) ?_
    refine lv_iconst (v := 0) hx hb dX7_mend_36 (by decide) ?_
    obtain ⟨Pv8, ePv8, h0⟩ := lt_out h0
    refine p_tube K X (by decide) hj3 6 (by decide) ePv8.symm q115 dX7_mend_37 (fun H locs X => ?_)
    refine lv_aload_n hx hb dX7_mend_40 rfl (lv_at hl 1 rfl) ?_
    refine g_objr K X 0 (by decide) rfl q274 dX7_mend_41 ?_
    obtain ⟨x9, ex9, h0⟩ := ob_out h0
    obtain ⟨Pv10, ePv10, h0⟩ := lt_out h0
    have kx9 := mC_X3_settle l D ca ar ag n Pv8 0 Gv7 xs (by decide) x9.1 x9.2 ex9 H.size
    rw [← ePv10] at kx9
    refine w_callV0 K X wC_fstx kx9 hl.1 0 q614 q615 q616 q17 q617 hv_X3_settle ⟨⟨Nat.le_of_ble_eq_true rfl, Nat.le_of_ble_eq_true rfl⟩, rfl, rfl⟩ (pl_rowo (by decide)) rfl rfl rfl rfl (Nat.le_of_ble_eq_true rfl) dX7_mend_44 ⟨Nat.le_of_ble_eq_true rfl, Nat.le_of_ble_eq_true rfl⟩ rfl (fun H locs X => ?_)
    refine lv_pop hx hb dX7_mend_47 rfl ?_
    refine lv_aload_n hx hb dX7_mend_48 rfl (lv_at hl 0 rfl) ?_
    refine g_tube K X (by decide) hj3 rfl 6 (by decide) q115 dX7_mend_49 ?_
    have h0 := Option.some.inj h0
    obtain ⟨q_0, h0⟩ := Prod.mk.inj h0
    obtain ⟨q_1, q_2⟩ := Prod.mk.inj h0
    subst q_0
    subst q_1
    subst q_2
    subst hQ
    exact w_iret K hr0 X wC_fstx hsz dX7_mend_52
  · have h0 := if_t c4 h0
    refine lv_bipush (v := (-2)) hx hb dX7_mend_21 (by decide) ?_
    have h0 := Option.some.inj h0
    obtain ⟨q_0, h0⟩ := Prod.mk.inj h0
    obtain ⟨q_1, q_2⟩ := Prod.mk.inj h0
    subst q_0
    subst q_1
    subst q_2
    subst hQ
    exact w_iret K hr0 X wC_fstx hsz dX7_mend_23
-- X7_refill
def f_X7_refill (n : Nat) (P : RowsS) (G : GlbS) (a1 : Int32) (a2 : Int32) : Option (Int32 × RowsS × GlbS) :=
  ob (f_X7_requireLeg a1) fun x1 =>
  ob (f_X7_requireWithin a2 1 99999999) fun x2 =>
  lt (f_X3_legAt (P 0) a1) fun x3 =>
  lt (x3) fun j4 =>
  if (((P 0).2 (j4 + 2) 5) + a2.toInt64) ≤ 2000000000 then
    ob (f_X0_keep n P G 0) fun x6 =>
    lt (x6.1) fun Pv7 =>
    lt (x6.2) fun Gv8 =>
    lt (va_up Pv7 0 (sl (Pv7 0) (j4 + 2) 3 (((Pv7 0).2 (j4 + 2) 3) + a2.toInt64))) fun Pv9 =>
    lt (va_up Pv9 0 (sl (Pv9 0) (j4 + 2) 5 (((Pv9 0).2 (j4 + 2) 5) + a2.toInt64))) fun Pv10 =>
    ob (f_X3_settle n (Pv10 0)) fun x11 =>
    lt (va_up Pv10 0 x11.2) fun Pv12 =>
    some (x11.1, Pv12, Gv8)
  else
    some ((-2), P, G)
abbrev rm_X7_refill : Room := { frames := 6, cells := 0, slots := 0, locals := 166 }
set_option maxRecDepth 100000 in
set_option maxHeartbeats 4000000 in
theorem m_X7_refill (l : Launch) (D : va_G) (ca : Nat → ClassId) (ar : Nat → Nat → Nat) (ag : Nat → Nat) (z : ZG) (n : Nat) (P : RowsS) (G : GlbS) (xs : va_W) (a1 : Int32) (a2 : Int32) (res : Int32) (P' : RowsS) (G' : GlbS) (h0 : f_X7_refill n P G a1 a2 = some (res, P', G')) (sz : Nat) : Met l yX7_refill (ws_ yX7_refill cX7_refill 4 (some .int)) rm_X7_refill (PCz z D ca (wC ar ag ca P G ++ xs) sz [.ref (ag 0), .int a1, .int a2]) (QMw D (wC ar ag ca P G ++ xs) (wC ar ag ca (P') (G') ++ xs) sz (some (.int res))) 0 0 (AL (wC ar ag ca P G ++ xs) sz) := by
  refine met_z (by decide +kernel) (Nat.le_of_ble_eq_true rfl) (fun p e s m args below meth c K hr0 hZ X hsz ls hl => ?_)
  have K : MC D ca p s m args meth c cX7_refill 4 RX7 := K
  have hx := K.1
  have hb := K.2.1
  have hl : lv_has ls 4 [(0, .ref (ag 0)), (1, .int a1), (2, .int a2)] := hl
  generalize hQ : MQ below _ args s 0 0 _ = Q
  unfold f_X7_refill at h0
  suffices Z : ∀ (H : Heap) (locs : List Loc) (X : RW D (wC ar ag ca P G ++ xs) s.heap H locs), W p l e rm_X7_refill s m args below meth c H locs 0 0 Q (F0 m 0 ls []) from Z _ _ X
  intro H locs X
  refine lv_iload_n hx hb dX7_refill_0 rfl (lv_at hl 1 rfl) ?_
  obtain ⟨x1, ex1, h0⟩ := ob_out h0
  have kx1 := m_X7_requireLeg l D ca z (wC ar ag ca P G ++ xs) a1  ex1 H.size
  refine z_callS K hZ X wC_fstx wC_fstx kx1 hl.1 1 q742 q743 q16 q744 hs_X7_requireLeg ⟨⟨Nat.le_of_ble_eq_true rfl, Nat.le_of_ble_eq_true rfl⟩, rfl, rfl⟩ rfl rfl (Nat.le_of_ble_eq_true rfl) dX7_refill_1 ⟨Nat.le_of_ble_eq_true rfl, Nat.le_of_ble_eq_true rfl⟩ rfl (fun H locs X => ?_)
  refine lv_iload_n hx hb dX7_refill_4 rfl (lv_at hl 2 rfl) ?_
  refine lv_iconst (v := 1) hx hb dX7_refill_5 (by decide) ?_
  refine lv_ldc hx hb K.2.2.2.1 (K.2.2.2.2.1 _ q822) dX7_refill_6 ?_
  obtain ⟨x2, ex2, h0⟩ := ob_out h0
  have kx2 := m_X7_requireWithin l D ca z (wC ar ag ca P G ++ xs) a2 1 99999999  ex2 H.size
  refine z_callS K hZ X wC_fstx wC_fstx kx2 hl.1 3 q402 q403 q16 q404 hs_X7_requireWithin ⟨⟨Nat.le_of_ble_eq_true rfl, Nat.le_of_ble_eq_true rfl⟩, rfl, rfl⟩ rfl rfl (Nat.le_of_ble_eq_true rfl) dX7_refill_8 ⟨Nat.le_of_ble_eq_true rfl, Nat.le_of_ble_eq_true rfl⟩ rfl (fun H locs X => ?_)
  refine lv_aload_n hx hb dX7_refill_11 rfl (lv_at hl 0 rfl) ?_
  refine g_objr K X 0 (by decide) rfl q274 dX7_refill_12 ?_
  refine lv_iload_n hx hb dX7_refill_15 rfl (lv_at hl 1 rfl) ?_
  obtain ⟨x3, ex3, h0⟩ := lt_out h0
  have kx3 := mC_X3_legAt l D ca ar ag P 0 G xs (by decide) a1 x3 ex3.symm H.size
  refine w_callV0 K X wC_fstx kx3 hl.1 1 q746 q555 q556 q17 q557 hv_X3_legAt ⟨⟨Nat.le_of_ble_eq_true rfl, Nat.le_of_ble_eq_true rfl⟩, rfl, rfl⟩ (pl_rowo (by decide)) rfl rfl rfl rfl (Nat.le_of_ble_eq_true rfl) dX7_refill_16 ⟨Nat.le_of_ble_eq_true rfl, Nat.le_of_ble_eq_true rfl⟩ rfl (fun H locs X => ?_)
  obtain ⟨j4, ej4, h0⟩ := lt_out h0
  rw [← ej4]
  have hj4 : j4 < 2 := by rw [ej4]; exact lt_X3_legAt ex3
  refine lv_astore_n (lv' := [(3, .ref (ar 0 (j4 + 2))), (0, .ref (ag 0)), (1, .int a1), (2, .int a2)]) hx hb dX7_refill_19 rfl hl (by decide) rfl (fun ls hl => ?_)
  refine lv_aload_n hx hb dX7_refill_20 rfl (lv_at hl 0 rfl) ?_
  refine g_legl K X (by decide) hj4 rfl 5 (by decide) q71 dX7_refill_21 ?_
  refine lv_iload_n hx hb dX7_refill_24 rfl (lv_at hl 3 rfl) ?_
  refine lv_i2l hx hb dX7_refill_25 rfl ?_
  refine lv_ladd hx hb dX7_refill_26 ?_
  refine lv_ldc2 hx hb K.2.2.2.1 (K.2.2.2.2.1 _ q823) dX7_refill_27 ?_
  refine w_ble (tgt := 37) K dX7_refill_30 dX7_refill_31 (by decide) (fun c5 => ?_) (fun c5 => ?_)
  · have h0 := if_t c5 h0
    refine lv_aload_n hx hb dX7_refill_37 rfl (lv_at hl 1 rfl) ?_
    refine g_objr K X 3 (by decide) rfl q277 dX7_refill_38 ?_
    refine lv_aload_n hx hb dX7_refill_41 rfl (lv_at hl 1 rfl) ?_
    refine g_objr K X 0 (by decide) rfl q274 dX7_refill_42 ?_
    obtain ⟨x6, ex6, h0⟩ := ob_out h0
    obtain ⟨Pv7, ePv7, h0⟩ := lt_out h0
    obtain ⟨Gv8, eGv8, h0⟩ := lt_out h0
    have kx6 := m_X0_keep l D ca ar ag n P G xs 0 (by decide) x6.1 x6.2 ex6 H.size
    rw [← ePv7, ← eGv8] at kx6
    refine w_callV0 K X wC_fstx kx6 hl.1 1 q779 q780 q781 q20 q782 hv_X0_keep ⟨⟨Nat.le_of_ble_eq_true rfl, Nat.le_of_ble_eq_true rfl⟩, rfl, rfl⟩ (pl_glb (k := 1) (by decide)) rfl rfl rfl rfl (Nat.le_of_ble_eq_true rfl) dX7_refill_45 ⟨Nat.le_of_ble_eq_true rfl, Nat.le_of_ble_eq_true rfl⟩ rfl (fun H locs X => ?_)
    refine lv_aload_n hx hb dX7_refill_48 rfl (lv_at hl 0 rfl) ?_
    refine lv_dup hx hb dX7_refill_49 rfl ?_
    refine g_legl K X (by decide) hj4 rfl 3 (by decide) q65 dX7_refill_50 ?_
    refine lv_iload_n hx hb dX7_refill_53 rfl (lv_at hl 3 rfl) ?_
    refine lv_i2l hx hb dX7_refill_54 rfl ?_
    refine lv_ladd hx hb dX7_refill_55 ?_
    obtain ⟨Pv9, ePv9, h0⟩ := lt_out h0
    refine p_legl K X (by decide) hj4 3 (by decide) ePv9.symm q65 dX7_refill_56 (fun H locs X => ?_)
    refine lv_aload_n hx hb dX7_refill_59 rfl (lv_at hl 0 rfl) ?_
    refine lv_dup hx hb dX7_refill_60 rfl ?_
    refine g_legl K X (by decide) hj4 rfl 5 (by decide) q71 dX7_refill_61 ?_
    refine lv_iload_n hx hb dX7_refill_64 rfl (lv_at hl 3 rfl) ?_
    refine lv_i2l hx hb dX7_refill_65 rfl ?_
    refine lv_ladd hx hb dX7_refill_66 ?_
    obtain ⟨Pv10, ePv10, h0⟩ := lt_out h0
    refine p_legl K X (by decide) hj4 5 (by decide) ePv10.symm q71 dX7_refill_67 (fun H locs X => ?_)
    refine lv_aload_n hx hb dX7_refill_70 rfl (lv_at hl 1 rfl) ?_
    refine g_objr K X 0 (by decide) rfl q274 dX7_refill_71 ?_
    obtain ⟨x11, ex11, h0⟩ := ob_out h0
    obtain ⟨Pv12, ePv12, h0⟩ := lt_out h0
    have kx11 := mC_X3_settle l D ca ar ag n Pv10 0 Gv8 xs (by decide) x11.1 x11.2 ex11 H.size
    rw [← ePv12] at kx11
    refine w_callV0 K X wC_fstx kx11 hl.1 0 q614 q615 q616 q17 q617 hv_X3_settle ⟨⟨Nat.le_of_ble_eq_true rfl, Nat.le_of_ble_eq_true rfl⟩, rfl, rfl⟩ (pl_rowo (by decide)) rfl rfl rfl rfl (Nat.le_of_ble_eq_true rfl) dX7_refill_74 ⟨Nat.le_of_ble_eq_true rfl, Nat.le_of_ble_eq_true rfl⟩ rfl (fun H locs X => ?_)
    have h0 := Option.some.inj h0
    obtain ⟨q_0, h0⟩ := Prod.mk.inj h0
    obtain ⟨q_1, q_2⟩ := Prod.mk.inj h0
    subst q_0
    subst q_1
    subst q_2
    subst hQ
    exact w_iret K hr0 X wC_fstx hsz dX7_refill_77
  · have h0 := if_f c5 h0
    refine lv_bipush (v := (-2)) hx hb dX7_refill_34 (by decide) ?_
    have h0 := Option.some.inj h0
    obtain ⟨q_0, h0⟩ := Prod.mk.inj h0
    obtain ⟨q_1, q_2⟩ := Prod.mk.inj h0
    subst q_0
    subst q_1
    subst q_2
    subst hQ
    exact w_iret K hr0 X wC_fstx hsz dX7_refill_36
-- X7_addTube
def f_X7_addTube (n : Nat) (P : RowsS) (G : GlbS) (a1 : Int32) (a2 : Int32) (a3 : Int32) (a4 : Int32) (a5 : Int32) : Option (Int32 × RowsS × GlbS) :=
  ob (f_X7_requireLeg a1) fun x1 =>
  ob (f_X7_requirePoint P G a2) fun x2 =>
  ob (f_X7_requireWithin a3 1 20) fun x3 =>
  ob (f_X7_requireWithin a4 50 1000) fun x4 =>
  ob (f_X7_requireWithin a5 10 2000) fun x5 =>
  if ((P 0).1 0 2) < 12 then
    ob (f_X0_keep n P G 0) fun x7 =>
    lt (x7.1) fun Pv8 =>
    lt (x7.2) fun Gv9 =>
    lt (f_X3_append (Pv8 0)) fun x10 =>
    lt (va_up Pv8 0 x10.2) fun Pv11 =>
    lt (x10.1) fun j12 =>
    lt (f_X6_stand ((Pv11 0).1 (j12 + 5)) a1 a2) fun x13 =>
    lt (upT Pv11 0 (j12 + 5) x13) fun Pv14 =>
    lt (f_X6_shape ((Pv14 0).1 (j12 + 5)) a3 a4 a5) fun x15 =>
    lt (upT Pv14 0 (j12 + 5) x15) fun Pv16 =>
    ob (f_X3_settle n (Pv16 0)) fun x17 =>
    lt (va_up Pv16 0 x17.2) fun Pv18 =>
    some ((((Pv18 0).1 0 2) - 1), Pv18, Gv9)
  else
    some ((-2), P, G)
abbrev rm_X7_addTube : Room := { frames := 6, cells := 0, slots := 0, locals := 166 }
set_option maxRecDepth 100000 in
set_option maxHeartbeats 4000000 in
theorem m_X7_addTube (l : Launch) (D : va_G) (ca : Nat → ClassId) (ar : Nat → Nat → Nat) (ag : Nat → Nat) (z : ZG) (n : Nat) (P : RowsS) (G : GlbS) (xs : va_W) (a1 : Int32) (a2 : Int32) (a3 : Int32) (a4 : Int32) (a5 : Int32) (res : Int32) (P' : RowsS) (G' : GlbS) (h0 : f_X7_addTube n P G a1 a2 a3 a4 a5 = some (res, P', G')) (sz : Nat) : Met l yX7_addTube (ws_ yX7_addTube cX7_addTube 7 (some .int)) rm_X7_addTube (PCz z D ca (wC ar ag ca P G ++ xs) sz [.ref (ag 0), .int a1, .int a2, .int a3, .int a4, .int a5]) (QMw D (wC ar ag ca P G ++ xs) (wC ar ag ca (P') (G') ++ xs) sz (some (.int res))) 0 0 (AL (wC ar ag ca P G ++ xs) sz) := by
  refine met_z (by decide +kernel) (Nat.le_of_ble_eq_true rfl) (fun p e s m args below meth c K hr0 hZ X hsz ls hl => ?_)
  have K : MC D ca p s m args meth c cX7_addTube 7 RX7 := K
  have hx := K.1
  have hb := K.2.1
  have hl : lv_has ls 7 [(0, .ref (ag 0)), (1, .int a1), (2, .int a2), (3, .int a3), (4, .int a4), (5, .int a5)] := hl
  generalize hQ : MQ below _ args s 0 0 _ = Q
  unfold f_X7_addTube at h0
  suffices Z : ∀ (H : Heap) (locs : List Loc) (X : RW D (wC ar ag ca P G ++ xs) s.heap H locs), W p l e rm_X7_addTube s m args below meth c H locs 0 0 Q (F0 m 0 ls []) from Z _ _ X
  intro H locs X
  refine lv_iload_n hx hb dX7_addTube_0 rfl (lv_at hl 1 rfl) ?_
  obtain ⟨x1, ex1, h0⟩ := ob_out h0
  have kx1 := m_X7_requireLeg l D ca z (wC ar ag ca P G ++ xs) a1  ex1 H.size
  refine z_callS K hZ X wC_fstx wC_fstx kx1 hl.1 1 q742 q743 q16 q744 hs_X7_requireLeg ⟨⟨Nat.le_of_ble_eq_true rfl, Nat.le_of_ble_eq_true rfl⟩, rfl, rfl⟩ rfl rfl (Nat.le_of_ble_eq_true rfl) dX7_addTube_1 ⟨Nat.le_of_ble_eq_true rfl, Nat.le_of_ble_eq_true rfl⟩ rfl (fun H locs X => ?_)
  refine lv_aload_n hx hb dX7_addTube_4 rfl (lv_at hl 0 rfl) ?_
  refine lv_iload_n hx hb dX7_addTube_5 rfl (lv_at hl 2 rfl) ?_
  obtain ⟨x2, ex2, h0⟩ := ob_out h0
  have kx2 := m_X7_requirePoint l D ca ar ag z P G xs a2  ex2 H.size
  refine z_callV K hZ X wC_fstx wC_fstx kx2 hl.1 1 q732 q734 q14 q16 q735 hv_X7_requirePoint ⟨⟨Nat.le_of_ble_eq_true rfl, Nat.le_of_ble_eq_true rfl⟩, rfl, rfl⟩ (z_recvw K X (pl_glb (k := 0) (by decide)) rfl rfl) rfl rfl (Nat.le_of_ble_eq_true rfl) dX7_addTube_6 ⟨Nat.le_of_ble_eq_true rfl, Nat.le_of_ble_eq_true rfl⟩ rfl (fun H locs X => ?_)
  refine lv_iload_n hx hb dX7_addTube_9 rfl (lv_at hl 3 rfl) ?_
  refine lv_iconst (v := 1) hx hb dX7_addTube_10 (by decide) ?_
  refine lv_bipush (v := 20) hx hb dX7_addTube_11 (by decide) ?_
  obtain ⟨x3, ex3, h0⟩ := ob_out h0
  have kx3 := m_X7_requireWithin l D ca z (wC ar ag ca P G ++ xs) a3 1 20  ex3 H.size
  refine z_callS K hZ X wC_fstx wC_fstx kx3 hl.1 3 q402 q403 q16 q404 hs_X7_requireWithin ⟨⟨Nat.le_of_ble_eq_true rfl, Nat.le_of_ble_eq_true rfl⟩, rfl, rfl⟩ rfl rfl (Nat.le_of_ble_eq_true rfl) dX7_addTube_13 ⟨Nat.le_of_ble_eq_true rfl, Nat.le_of_ble_eq_true rfl⟩ rfl (fun H locs X => ?_)
  refine lv_iload hx hb dX7_addTube_16 (lv_at hl 4 rfl) ?_
  refine lv_bipush (v := 50) hx hb dX7_addTube_18 (by decide) ?_
  refine lv_sipush (v := 1000) hx hb dX7_addTube_20 (by decide) ?_
  obtain ⟨x4, ex4, h0⟩ := ob_out h0
  have kx4 := m_X7_requireWithin l D ca z (wC ar ag ca P G ++ xs) a4 50 1000  ex4 H.size
  refine z_callS K hZ X wC_fstx wC_fstx kx4 hl.1 3 q402 q403 q16 q404 hs_X7_requireWithin ⟨⟨Nat.le_of_ble_eq_true rfl, Nat.le_of_ble_eq_true rfl⟩, rfl, rfl⟩ rfl rfl (Nat.le_of_ble_eq_true rfl) dX7_addTube_23 ⟨Nat.le_of_ble_eq_true rfl, Nat.le_of_ble_eq_true rfl⟩ rfl (fun H locs X => ?_)
  refine lv_iload hx hb dX7_addTube_26 (lv_at hl 5 rfl) ?_
  refine lv_bipush (v := 10) hx hb dX7_addTube_28 (by decide) ?_
  refine lv_sipush (v := 2000) hx hb dX7_addTube_30 (by decide) ?_
  obtain ⟨x5, ex5, h0⟩ := ob_out h0
  have kx5 := m_X7_requireWithin l D ca z (wC ar ag ca P G ++ xs) a5 10 2000  ex5 H.size
  refine z_callS K hZ X wC_fstx wC_fstx kx5 hl.1 3 q402 q403 q16 q404 hs_X7_requireWithin ⟨⟨Nat.le_of_ble_eq_true rfl, Nat.le_of_ble_eq_true rfl⟩, rfl, rfl⟩ rfl rfl (Nat.le_of_ble_eq_true rfl) dX7_addTube_33 ⟨Nat.le_of_ble_eq_true rfl, Nat.le_of_ble_eq_true rfl⟩ rfl (fun H locs X => ?_)
  refine lv_aload_n hx hb dX7_addTube_36 rfl (lv_at hl 0 rfl) ?_
  refine g_objr K X 0 (by decide) rfl q274 dX7_addTube_37 ?_
  refine g_rowi K X (by decide) rfl 2 (by decide) q151 dX7_addTube_40 ?_
  refine lv_bipush (v := 12) hx hb dX7_addTube_43 (by decide) ?_
  refine lv_icmp_lt (tgt := 51) hx hb dX7_addTube_45 (by decide) (fun c6 => ?_) (fun c6 => ?_)
  · have h0 := if_t c6 h0
    refine lv_aload_n hx hb dX7_addTube_51 rfl (lv_at hl 0 rfl) ?_
    refine g_objr K X 3 (by decide) rfl q277 dX7_addTube_52 ?_
    refine lv_aload_n hx hb dX7_addTube_55 rfl (lv_at hl 0 rfl) ?_
    refine g_objr K X 0 (by decide) rfl q274 dX7_addTube_56 ?_
    obtain ⟨x7, ex7, h0⟩ := ob_out h0
    obtain ⟨Pv8, ePv8, h0⟩ := lt_out h0
    obtain ⟨Gv9, eGv9, h0⟩ := lt_out h0
    have kx7 := m_X0_keep l D ca ar ag n P G xs 0 (by decide) x7.1 x7.2 ex7 H.size
    rw [← ePv8, ← eGv9] at kx7
    refine w_callV0 K X wC_fstx kx7 hl.1 1 q779 q780 q781 q20 q782 hv_X0_keep ⟨⟨Nat.le_of_ble_eq_true rfl, Nat.le_of_ble_eq_true rfl⟩, rfl, rfl⟩ (pl_glb (k := 1) (by decide)) rfl rfl rfl rfl (Nat.le_of_ble_eq_true rfl) dX7_addTube_59 ⟨Nat.le_of_ble_eq_true rfl, Nat.le_of_ble_eq_true rfl⟩ rfl (fun H locs X => ?_)
    refine lv_aload_n hx hb dX7_addTube_62 rfl (lv_at hl 0 rfl) ?_
    refine g_objr K X 0 (by decide) rfl q274 dX7_addTube_63 ?_
    obtain ⟨x10, ex10, h0⟩ := lt_out h0
    obtain ⟨Pv11, ePv11, h0⟩ := lt_out h0
    have kx10 := mC_X3_append l D ca ar ag Pv8 0 Gv9 xs (by decide) x10.1 x10.2 ex10.symm H.size
    rw [← ePv11] at kx10
    refine w_callV0 K X wC_fstx kx10 hl.1 0 q828 q571 q572 q17 q573 hv_X3_append ⟨⟨Nat.le_of_ble_eq_true rfl, Nat.le_of_ble_eq_true rfl⟩, rfl, rfl⟩ (pl_rowo (by decide)) rfl rfl rfl rfl (Nat.le_of_ble_eq_true rfl) dX7_addTube_66 ⟨Nat.le_of_ble_eq_true rfl, Nat.le_of_ble_eq_true rfl⟩ rfl (fun H locs X => ?_)
    obtain ⟨j12, ej12, h0⟩ := lt_out h0
    rw [← ej12]
    have hj12 : j12 < 13 := by rw [ej12]; exact lt_X3_append ex10
    refine lv_astore (lv' := [(6, .ref (ar 0 (j12 + 5))), (0, .ref (ag 0)), (1, .int a1), (2, .int a2), (3, .int a3), (4, .int a4), (5, .int a5)]) hx hb dX7_addTube_69 hl (by decide) rfl (fun ls hl => ?_)
    refine lv_aload hx hb dX7_addTube_71 (lv_at hl 0 rfl) ?_
    refine lv_iload_n hx hb dX7_addTube_73 rfl (lv_at hl 2 rfl) ?_
    refine lv_iload_n hx hb dX7_addTube_74 rfl (lv_at hl 3 rfl) ?_
    obtain ⟨x13, ex13, h0⟩ := lt_out h0
    obtain ⟨Pv14, ePv14, h0⟩ := lt_out h0
    have kx13 := mC_X6_stand l D ca ar ag Pv11 0 j12 Gv9 xs (by decide) hj12 a1 a2 x13 ex13.symm H.size
    rw [← ePv14] at kx13
    refine w_callV0 K X wC_fstx kx13 hl.1 2 q829 q579 q580 q19 q581 hv_X6_stand ⟨⟨Nat.le_of_ble_eq_true rfl, Nat.le_of_ble_eq_true rfl⟩, rfl, rfl⟩ (pl_tube (by decide) hj12) rfl rfl rfl rfl (Nat.le_of_ble_eq_true rfl) dX7_addTube_75 ⟨Nat.le_of_ble_eq_true rfl, Nat.le_of_ble_eq_true rfl⟩ rfl (fun H locs X => ?_)
    refine lv_aload hx hb dX7_addTube_78 (lv_at hl 0 rfl) ?_
    refine lv_iload_n hx hb dX7_addTube_80 rfl (lv_at hl 4 rfl) ?_
    refine lv_iload hx hb dX7_addTube_81 (lv_at hl 5 rfl) ?_
    refine lv_iload hx hb dX7_addTube_83 (lv_at hl 6 rfl) ?_
    obtain ⟨x15, ex15, h0⟩ := lt_out h0
    obtain ⟨Pv16, ePv16, h0⟩ := lt_out h0
    have kx15 := mC_X6_shape l D ca ar ag Pv14 0 j12 Gv9 xs (by decide) hj12 a3 a4 a5 x15 ex15.symm H.size
    rw [← ePv16] at kx15
    refine w_callV0 K X wC_fstx kx15 hl.1 3 q830 q583 q584 q19 q585 hv_X6_shape ⟨⟨Nat.le_of_ble_eq_true rfl, Nat.le_of_ble_eq_true rfl⟩, rfl, rfl⟩ (pl_tube (by decide) hj12) rfl rfl rfl rfl (Nat.le_of_ble_eq_true rfl) dX7_addTube_85 ⟨Nat.le_of_ble_eq_true rfl, Nat.le_of_ble_eq_true rfl⟩ rfl (fun H locs X => ?_)
    refine lv_aload_n hx hb dX7_addTube_88 rfl (lv_at hl 1 rfl) ?_
    refine g_objr K X 0 (by decide) rfl q274 dX7_addTube_89 ?_
    obtain ⟨x17, ex17, h0⟩ := ob_out h0
    obtain ⟨Pv18, ePv18, h0⟩ := lt_out h0
    have kx17 := mC_X3_settle l D ca ar ag n Pv16 0 Gv9 xs (by decide) x17.1 x17.2 ex17 H.size
    rw [← ePv18] at kx17
    refine w_callV0 K X wC_fstx kx17 hl.1 0 q614 q615 q616 q17 q617 hv_X3_settle ⟨⟨Nat.le_of_ble_eq_true rfl, Nat.le_of_ble_eq_true rfl⟩, rfl, rfl⟩ (pl_rowo (by decide)) rfl rfl rfl rfl (Nat.le_of_ble_eq_true rfl) dX7_addTube_92 ⟨Nat.le_of_ble_eq_true rfl, Nat.le_of_ble_eq_true rfl⟩ rfl (fun H locs X => ?_)
    refine lv_pop hx hb dX7_addTube_95 rfl ?_
    refine lv_aload_n hx hb dX7_addTube_96 rfl (lv_at hl 1 rfl) ?_
    refine g_objr K X 0 (by decide) rfl q274 dX7_addTube_97 ?_
    refine g_rowi K X (by decide) rfl 2 (by decide) q151 dX7_addTube_100 ?_
    refine lv_iconst (v := 1) hx hb dX7_addTube_103 (by decide) ?_
    refine lv_isub hx hb dX7_addTube_104 ?_
    have h0 := Option.some.inj h0
    obtain ⟨q_0, h0⟩ := Prod.mk.inj h0
    obtain ⟨q_1, q_2⟩ := Prod.mk.inj h0
    subst q_0
    subst q_1
    subst q_2
    subst hQ
    exact w_iret K hr0 X wC_fstx hsz dX7_addTube_105
  · have h0 := if_f c6 h0
    refine lv_bipush (v := (-2)) hx hb dX7_addTube_48 (by decide) ?_
    have h0 := Option.some.inj h0
    obtain ⟨q_0, h0⟩ := Prod.mk.inj h0
    obtain ⟨q_1, q_2⟩ := Prod.mk.inj h0
    subst q_0
    subst q_1
    subst q_2
    subst hQ
    exact w_iret K hr0 X wC_fstx hsz dX7_addTube_50
-- X7_dropTube
def f_X7_dropTube (n : Nat) (P : RowsS) (G : GlbS) (a1 : Int32) : Option (Int32 × RowsS × GlbS) :=
  ob (f_X7_requireTube P G a1) fun x1 =>
  ob (f_X0_keep n P G 0) fun x2 =>
  lt (x2.1) fun Pv3 =>
  lt (x2.2) fun Gv4 =>
  ob (f_X3_remove n (Pv3 0) a1) fun x5 =>
  lt (va_up Pv3 0 x5) fun Pv6 =>
  ob (f_X3_settle n (Pv6 0)) fun x7 =>
  lt (va_up Pv6 0 x7.2) fun Pv8 =>
  some (((Pv8 0).1 0 2), Pv8, Gv4)
abbrev rm_X7_dropTube : Room := { frames := 6, cells := 0, slots := 0, locals := 166 }
set_option maxRecDepth 100000 in
set_option maxHeartbeats 4000000 in
theorem m_X7_dropTube (l : Launch) (D : va_G) (ca : Nat → ClassId) (ar : Nat → Nat → Nat) (ag : Nat → Nat) (z : ZG) (n : Nat) (P : RowsS) (G : GlbS) (xs : va_W) (a1 : Int32) (res : Int32) (P' : RowsS) (G' : GlbS) (h0 : f_X7_dropTube n P G a1 = some (res, P', G')) (sz : Nat) : Met l yX7_dropTube (ws_ yX7_dropTube cX7_dropTube 2 (some .int)) rm_X7_dropTube (PCz z D ca (wC ar ag ca P G ++ xs) sz [.ref (ag 0), .int a1]) (QMw D (wC ar ag ca P G ++ xs) (wC ar ag ca (P') (G') ++ xs) sz (some (.int res))) 0 0 (AL (wC ar ag ca P G ++ xs) sz) := by
  refine met_z (by decide +kernel) (Nat.le_of_ble_eq_true rfl) (fun p e s m args below meth c K hr0 hZ X hsz ls hl => ?_)
  have K : MC D ca p s m args meth c cX7_dropTube 2 RX7 := K
  have hx := K.1
  have hb := K.2.1
  have hl : lv_has ls 2 [(0, .ref (ag 0)), (1, .int a1)] := hl
  generalize hQ : MQ below _ args s 0 0 _ = Q
  unfold f_X7_dropTube at h0
  suffices Z : ∀ (H : Heap) (locs : List Loc) (X : RW D (wC ar ag ca P G ++ xs) s.heap H locs), W p l e rm_X7_dropTube s m args below meth c H locs 0 0 Q (F0 m 0 ls []) from Z _ _ X
  intro H locs X
  refine lv_aload_n hx hb dX7_dropTube_0 rfl (lv_at hl 0 rfl) ?_
  refine lv_iload_n hx hb dX7_dropTube_1 rfl (lv_at hl 1 rfl) ?_
  obtain ⟨x1, ex1, h0⟩ := ob_out h0
  have kx1 := m_X7_requireTube l D ca ar ag z P G xs a1  ex1 H.size
  refine z_callV K hZ X wC_fstx wC_fstx kx1 hl.1 1 q714 q716 q13 q16 q717 hv_X7_requireTube ⟨⟨Nat.le_of_ble_eq_true rfl, Nat.le_of_ble_eq_true rfl⟩, rfl, rfl⟩ (z_recvw K X (pl_glb (k := 0) (by decide)) rfl rfl) rfl rfl (Nat.le_of_ble_eq_true rfl) dX7_dropTube_2 ⟨Nat.le_of_ble_eq_true rfl, Nat.le_of_ble_eq_true rfl⟩ rfl (fun H locs X => ?_)
  refine lv_aload_n hx hb dX7_dropTube_5 rfl (lv_at hl 0 rfl) ?_
  refine g_objr K X 3 (by decide) rfl q277 dX7_dropTube_6 ?_
  refine lv_aload_n hx hb dX7_dropTube_9 rfl (lv_at hl 0 rfl) ?_
  refine g_objr K X 0 (by decide) rfl q274 dX7_dropTube_10 ?_
  obtain ⟨x2, ex2, h0⟩ := ob_out h0
  obtain ⟨Pv3, ePv3, h0⟩ := lt_out h0
  obtain ⟨Gv4, eGv4, h0⟩ := lt_out h0
  have kx2 := m_X0_keep l D ca ar ag n P G xs 0 (by decide) x2.1 x2.2 ex2 H.size
  rw [← ePv3, ← eGv4] at kx2
  refine w_callV0 K X wC_fstx kx2 hl.1 1 q779 q780 q781 q20 q782 hv_X0_keep ⟨⟨Nat.le_of_ble_eq_true rfl, Nat.le_of_ble_eq_true rfl⟩, rfl, rfl⟩ (pl_glb (k := 1) (by decide)) rfl rfl rfl rfl (Nat.le_of_ble_eq_true rfl) dX7_dropTube_13 ⟨Nat.le_of_ble_eq_true rfl, Nat.le_of_ble_eq_true rfl⟩ rfl (fun H locs X => ?_)
  refine lv_aload_n hx hb dX7_dropTube_16 rfl (lv_at hl 0 rfl) ?_
  refine g_objr K X 0 (by decide) rfl q274 dX7_dropTube_17 ?_
  refine lv_iload_n hx hb dX7_dropTube_20 rfl (lv_at hl 1 rfl) ?_
  obtain ⟨x5, ex5, h0⟩ := ob_out h0
  obtain ⟨Pv6, ePv6, h0⟩ := lt_out h0
  have kx5 := mC_X3_remove l D ca ar ag n Pv3 0 Gv4 xs (by decide) a1 x5 ex5 H.size
  rw [← ePv6] at kx5
  refine w_callV0 K X wC_fstx kx5 hl.1 1 q835 q836 q837 q17 q838 hv_X3_remove ⟨⟨Nat.le_of_ble_eq_true rfl, Nat.le_of_ble_eq_true rfl⟩, rfl, rfl⟩ (pl_rowo (by decide)) rfl rfl rfl rfl (Nat.le_of_ble_eq_true rfl) dX7_dropTube_21 ⟨Nat.le_of_ble_eq_true rfl, Nat.le_of_ble_eq_true rfl⟩ rfl (fun H locs X => ?_)
  refine lv_aload_n hx hb dX7_dropTube_24 rfl (lv_at hl 0 rfl) ?_
  refine g_objr K X 0 (by decide) rfl q274 dX7_dropTube_25 ?_
  obtain ⟨x7, ex7, h0⟩ := ob_out h0
  obtain ⟨Pv8, ePv8, h0⟩ := lt_out h0
  have kx7 := mC_X3_settle l D ca ar ag n Pv6 0 Gv4 xs (by decide) x7.1 x7.2 ex7 H.size
  rw [← ePv8] at kx7
  refine w_callV0 K X wC_fstx kx7 hl.1 0 q614 q615 q616 q17 q617 hv_X3_settle ⟨⟨Nat.le_of_ble_eq_true rfl, Nat.le_of_ble_eq_true rfl⟩, rfl, rfl⟩ (pl_rowo (by decide)) rfl rfl rfl rfl (Nat.le_of_ble_eq_true rfl) dX7_dropTube_28 ⟨Nat.le_of_ble_eq_true rfl, Nat.le_of_ble_eq_true rfl⟩ rfl (fun H locs X => ?_)
  refine lv_pop hx hb dX7_dropTube_31 rfl ?_
  refine lv_aload_n hx hb dX7_dropTube_32 rfl (lv_at hl 0 rfl) ?_
  refine g_objr K X 0 (by decide) rfl q274 dX7_dropTube_33 ?_
  refine g_rowi K X (by decide) rfl 2 (by decide) q151 dX7_dropTube_36 ?_
  have h0 := Option.some.inj h0
  obtain ⟨q_0, h0⟩ := Prod.mk.inj h0
  obtain ⟨q_1, q_2⟩ := Prod.mk.inj h0
  subst q_0
  subst q_1
  subst q_2
  subst hQ
  exact w_iret K hr0 X wC_fstx hsz dX7_dropTube_39
