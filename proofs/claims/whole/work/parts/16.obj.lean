-- X7_feed
def f_X7_feed (n : Nat) (P : RowsS) (G : GlbS) (a1 : Int32) (a2 : Int32) (a3 : Int32) (a4 : Int32) (a5 : Int32) : Option (Int32 × GlbS) :=
  lt (f_X5_hasRoomFor G 20) fun x1 =>
  if x1 = true then
    ob (f_X5_append n G a1) fun x3 =>
    lt (x3) fun Gv4 =>
    ob (f_X5_append n Gv4 a2) fun x5 =>
    lt (x5) fun Gv6 =>
    ob (f_X5_append n Gv6 a3) fun x7 =>
    lt (x7) fun Gv8 =>
    ob (f_X5_append n Gv8 a4) fun x9 =>
    lt (x9) fun Gv10 =>
    ob (f_X5_append n Gv10 a5) fun x11 =>
    lt (x11) fun Gv12 =>
    some ((Gv12 3 1), Gv12)
  else
    some ((-1), G)
abbrev rm_X7_feed : Room := { frames := 1, cells := 0, slots := 0, locals := 22 }
set_option maxRecDepth 100000 in
set_option maxHeartbeats 4000000 in
theorem m_X7_feed (l : Launch) (D : va_G) (ca : Nat → ClassId) (ar : Nat → Nat → Nat) (ag : Nat → Nat) (n : Nat) (P : RowsS) (G : GlbS) (xs : va_W) (a1 : Int32) (a2 : Int32) (a3 : Int32) (a4 : Int32) (a5 : Int32) (res : Int32) (G' : GlbS) (h0 : f_X7_feed n P G a1 a2 a3 a4 a5 = some (res, G')) (sz : Nat) : Met l yX7_feed (ws_ yX7_feed cX7_feed 6 (some .int)) rm_X7_feed (PCw D ca (wC ar ag ca P G ++ xs) sz [.ref (ag 0), .int a1, .int a2, .int a3, .int a4, .int a5]) (QMw D (wC ar ag ca P G ++ xs) (wC ar ag ca P (G') ++ xs) sz (some (.int res))) 0 0 (AL (wC ar ag ca P G ++ xs) sz) := by
  refine met_of (by decide) (Nat.le_of_ble_eq_true rfl) (fun p e s m args below meth c K hr0 X hsz ls hl => ?_)
  have K : MC D ca p s m args meth c cX7_feed 6 RX7 := K
  have hx := K.1
  have hb := K.2.1
  have hl : lv_has ls 6 [(0, .ref (ag 0)), (1, .int a1), (2, .int a2), (3, .int a3), (4, .int a4), (5, .int a5)] := hl
  generalize hQ : MQ below _ args s 0 0 _ = Q
  unfold f_X7_feed at h0
  suffices Z : ∀ (H : Heap) (locs : List Loc) (X : RW D (wC ar ag ca P G ++ xs) s.heap H locs), W p l e rm_X7_feed s m args below meth c H locs 0 0 Q (F0 m 0 ls []) from Z _ _ X
  intro H locs X
  refine lv_aload_n hx hb dX7_feed_0 rfl (lv_at hl 0 rfl) ?_
  refine g_objr K X 4 (by decide) rfl q365 dX7_feed_1 ?_
  refine lv_bipush (v := 20) hx hb dX7_feed_4 (by decide) ?_
  obtain ⟨x1, ex1, h0⟩ := lt_out h0
  have kx1 := m_X5_hasRoomFor l D ca ar ag P G xs 20 x1 ex1.symm H.size
  refine w_callV0 K X wC_fstx kx1 hl.1 1 q387 q388 q389 q92 q390 hv_X5_hasRoomFor ⟨⟨Nat.le_of_ble_eq_true rfl, Nat.le_of_ble_eq_true rfl⟩, rfl, rfl⟩ (pl_glb (k := 3) (by decide)) rfl rfl rfl rfl (Nat.le_of_ble_eq_true rfl) dX7_feed_6 ⟨Nat.le_of_ble_eq_true rfl, Nat.le_of_ble_eq_true rfl⟩ rfl (fun H locs X => ?_)
  refine w_zne (tgt := 14) K dX7_feed_9 (by decide) (fun c2 => ?_) (fun c2 => ?_)
  · have h0 := if_t c2 h0
    refine lv_aload_n hx hb dX7_feed_14 rfl (lv_at hl 0 rfl) ?_
    refine g_objr K X 4 (by decide) rfl q365 dX7_feed_15 ?_
    refine lv_iload_n hx hb dX7_feed_18 rfl (lv_at hl 1 rfl) ?_
    obtain ⟨x3, ex3, h0⟩ := ob_out h0
    obtain ⟨Gv4, eGv4, h0⟩ := lt_out h0
    have kx3 := m_X5_append l D ca ar ag n P G xs a1 x3 ex3 H.size
    rw [← eGv4] at kx3
    refine w_callV0 K X wC_fstx kx3 hl.1 1 q391 q392 q393 q92 q394 hv_X5_append ⟨⟨Nat.le_of_ble_eq_true rfl, Nat.le_of_ble_eq_true rfl⟩, rfl, rfl⟩ (pl_glb (k := 3) (by decide)) rfl rfl rfl rfl (Nat.le_of_ble_eq_true rfl) dX7_feed_19 ⟨Nat.le_of_ble_eq_true rfl, Nat.le_of_ble_eq_true rfl⟩ rfl (fun H locs X => ?_)
    refine lv_aload_n hx hb dX7_feed_22 rfl (lv_at hl 0 rfl) ?_
    refine g_objr K X 4 (by decide) rfl q365 dX7_feed_23 ?_
    refine lv_iload_n hx hb dX7_feed_26 rfl (lv_at hl 2 rfl) ?_
    obtain ⟨x5, ex5, h0⟩ := ob_out h0
    obtain ⟨Gv6, eGv6, h0⟩ := lt_out h0
    have kx5 := m_X5_append l D ca ar ag n P Gv4 xs a2 x5 ex5 H.size
    rw [← eGv6] at kx5
    refine w_callV0 K X wC_fstx kx5 hl.1 1 q391 q392 q393 q92 q394 hv_X5_append ⟨⟨Nat.le_of_ble_eq_true rfl, Nat.le_of_ble_eq_true rfl⟩, rfl, rfl⟩ (pl_glb (k := 3) (by decide)) rfl rfl rfl rfl (Nat.le_of_ble_eq_true rfl) dX7_feed_27 ⟨Nat.le_of_ble_eq_true rfl, Nat.le_of_ble_eq_true rfl⟩ rfl (fun H locs X => ?_)
    refine lv_aload_n hx hb dX7_feed_30 rfl (lv_at hl 0 rfl) ?_
    refine g_objr K X 4 (by decide) rfl q365 dX7_feed_31 ?_
    refine lv_iload_n hx hb dX7_feed_34 rfl (lv_at hl 3 rfl) ?_
    obtain ⟨x7, ex7, h0⟩ := ob_out h0
    obtain ⟨Gv8, eGv8, h0⟩ := lt_out h0
    have kx7 := m_X5_append l D ca ar ag n P Gv6 xs a3 x7 ex7 H.size
    rw [← eGv8] at kx7
    refine w_callV0 K X wC_fstx kx7 hl.1 1 q391 q392 q393 q92 q394 hv_X5_append ⟨⟨Nat.le_of_ble_eq_true rfl, Nat.le_of_ble_eq_true rfl⟩, rfl, rfl⟩ (pl_glb (k := 3) (by decide)) rfl rfl rfl rfl (Nat.le_of_ble_eq_true rfl) dX7_feed_35 ⟨Nat.le_of_ble_eq_true rfl, Nat.le_of_ble_eq_true rfl⟩ rfl (fun H locs X => ?_)
    refine lv_aload_n hx hb dX7_feed_38 rfl (lv_at hl 0 rfl) ?_
    refine g_objr K X 4 (by decide) rfl q365 dX7_feed_39 ?_
    refine lv_iload hx hb dX7_feed_42 (lv_at hl 4 rfl) ?_
    obtain ⟨x9, ex9, h0⟩ := ob_out h0
    obtain ⟨Gv10, eGv10, h0⟩ := lt_out h0
    have kx9 := m_X5_append l D ca ar ag n P Gv8 xs a4 x9 ex9 H.size
    rw [← eGv10] at kx9
    refine w_callV0 K X wC_fstx kx9 hl.1 1 q391 q392 q393 q92 q394 hv_X5_append ⟨⟨Nat.le_of_ble_eq_true rfl, Nat.le_of_ble_eq_true rfl⟩, rfl, rfl⟩ (pl_glb (k := 3) (by decide)) rfl rfl rfl rfl (Nat.le_of_ble_eq_true rfl) dX7_feed_44 ⟨Nat.le_of_ble_eq_true rfl, Nat.le_of_ble_eq_true rfl⟩ rfl (fun H locs X => ?_)
    refine lv_aload_n hx hb dX7_feed_47 rfl (lv_at hl 0 rfl) ?_
    refine g_objr K X 4 (by decide) rfl q365 dX7_feed_48 ?_
    refine lv_iload hx hb dX7_feed_51 (lv_at hl 5 rfl) ?_
    obtain ⟨x11, ex11, h0⟩ := ob_out h0
    obtain ⟨Gv12, eGv12, h0⟩ := lt_out h0
    have kx11 := m_X5_append l D ca ar ag n P Gv10 xs a5 x11 ex11 H.size
    rw [← eGv12] at kx11
    refine w_callV0 K X wC_fstx kx11 hl.1 1 q391 q392 q393 q92 q394 hv_X5_append ⟨⟨Nat.le_of_ble_eq_true rfl, Nat.le_of_ble_eq_true rfl⟩, rfl, rfl⟩ (pl_glb (k := 3) (by decide)) rfl rfl rfl rfl (Nat.le_of_ble_eq_true rfl) dX7_feed_53 ⟨Nat.le_of_ble_eq_true rfl, Nat.le_of_ble_eq_true rfl⟩ rfl (fun H locs X => ?_)
    refine lv_aload_n hx hb dX7_feed_56 rfl (lv_at hl 0 rfl) ?_
    refine g_objr K X 4 (by decide) rfl q365 dX7_feed_57 ?_
    refine g_toki K X 1 (by decide) q283 dX7_feed_60 ?_
    have h0 := Option.some.inj h0
    obtain ⟨q_0, q_1⟩ := Prod.mk.inj h0
    subst q_0
    subst q_1
    subst hQ
    exact w_iret K hr0 X wC_fstx hsz dX7_feed_63
  · have h0 := if_f c2 h0
    refine lv_iconst (v := (-1)) hx hb dX7_feed_12 (by decide) ?_
    have h0 := Option.some.inj h0
    obtain ⟨q_0, q_1⟩ := Prod.mk.inj h0
    subst q_0
    subst q_1
    subst hQ
    exact w_iret K hr0 X wC_fstx hsz dX7_feed_13
-- X7_requireWithin
def b_X7_requireWithin_10   : Option Unit :=
  none
def f_X7_requireWithin (a1 : Int32) (a2 : Int32) (a3 : Int32) : Option Unit :=
  if a1 < a2 then
    b_X7_requireWithin_10
  else
    if a1 ≤ a3 then
      some ()
    else
      b_X7_requireWithin_10
abbrev rm_X7_requireWithin : Room := { frames := 0, cells := 0, slots := 0, locals := 0 }
set_option maxRecDepth 100000 in
set_option maxHeartbeats 4000000 in
theorem m_X7_requireWithin (l : Launch) (D : va_G) (ca : Nat → ClassId) (z : ZG) (ws : va_W) (a1 : Int32) (a2 : Int32) (a3 : Int32)  (h0 : f_X7_requireWithin a1 a2 a3 = some ()) (sz : Nat) : Met l yX7_requireWithin (ws_ yX7_requireWithin cX7_requireWithin 3 none) rm_X7_requireWithin (PCz z D ca (ws) sz [.int a1, .int a2, .int a3]) (QMw D (ws) (ws) sz none) 0 0 (AL (ws) sz) := by
  refine met_z (by decide +kernel) (Nat.le_of_ble_eq_true rfl) (fun p e s m args below meth c K hr0 hZ X hsz ls hl => ?_)
  have K : MC D ca p s m args meth c cX7_requireWithin 3 RX7 := K
  have hx := K.1
  have hb := K.2.1
  have hl : lv_has ls 3 [(0, .int a1), (1, .int a2), (2, .int a3)] := hl
  generalize hQ : MQ below _ args s 0 0 _ = Q
  unfold f_X7_requireWithin at h0
  suffices Z : ∀ (H : Heap) (locs : List Loc) (X : RW D (ws) s.heap H locs), W p l e rm_X7_requireWithin s m args below meth c H locs 0 0 Q (F0 m 0 ls []) from Z _ _ X
  intro H locs X
  have J10 : ∀  (H : Heap) (locs : List Loc) (X : RW D (ws) s.heap H locs) (ls : Array Slot) (hl : lv_has ls 3 []) (h0 : b_X7_requireWithin_10 = some ()), W p l e rm_X7_requireWithin s m args below meth c H locs 0 0 Q (F0 m 10 ls []) := by
    intro  H locs X ls hl h0
    unfold b_X7_requireWithin_10 at h0
    cases h0
  refine lv_iload_n hx hb dX7_requireWithin_0 rfl (lv_at hl 0 rfl) ?_
  refine lv_iload_n hx hb dX7_requireWithin_1 rfl (lv_at hl 1 rfl) ?_
  refine lv_icmp_lt (tgt := 10) hx hb dX7_requireWithin_2 (by decide) (fun c1 => ?_) (fun c1 => ?_)
  · have h0 := if_t c1 h0
    exact J10  H locs X ls (lv_sub hl [] rfl) h0
  · have h0 := if_f c1 h0
    refine lv_iload_n hx hb dX7_requireWithin_5 rfl (lv_at hl 0 rfl) ?_
    refine lv_iload_n hx hb dX7_requireWithin_6 rfl (lv_at hl 2 rfl) ?_
    refine lv_icmp_le (tgt := 21) hx hb dX7_requireWithin_7 (by decide) (fun c2 => ?_) (fun c2 => ?_)
    · have h0 := if_t c2 h0
      have h0 := Option.some.inj h0
      subst hQ
      exact w_vret K hr0 X rfl hsz dX7_requireWithin_21
    · have h0 := if_f c2 h0
      exact J10  H locs X ls (lv_sub hl [] rfl) h0
-- X7_load
def f_X7_load (n : Nat) (P : RowsS) (G : GlbS) (a1 : Int32) : Option (Int32 × RowsS × GlbS) :=
  ob (f_X7_requireWithin a1 0 (G 3 1)) fun x1 =>
  ob (f_X5_begin n G a1) fun x2 =>
  lt (x2) fun Gv3 =>
  ob (f_X4_read n (P 1) Gv3) fun x4 =>
  lt (va_up P 1 x4.1) fun Pv5 =>
  lt (x4.2) fun Gv6 =>
  lt (f_X5_empty Gv6) fun x7 =>
  lt (x7) fun Gv8 =>
  if (Gv8 3 7) = 0 then
    ob (f_X3_copyFrom n (Pv5 0) (Pv5 1)) fun x10 =>
    lt (va_up Pv5 0 x10) fun Pv11 =>
    ob (f_X3_settle n (Pv11 0)) fun x12 =>
    lt (va_up Pv11 0 x12.2) fun Pv13 =>
    lt (f_X0_clear Pv13 Gv8) fun x14 =>
    lt (x14) fun Gv15 =>
    lt (sg Gv15 0 6 0) fun Gv16 =>
    ob (f_X3_countInState n (Pv13 0) 0) fun x17 =>
    some (x17, Pv13, Gv16)
  else
    some (((-10) - (Gv8 3 7)), Pv5, Gv8)
abbrev rm_X7_load : Room := { frames := 8, cells := 1, slots := 2, locals := 200 }
set_option maxRecDepth 100000 in
set_option maxHeartbeats 4000000 in
theorem m_X7_load (l : Launch) (D : va_G) (ca : Nat → ClassId) (ar : Nat → Nat → Nat) (ag : Nat → Nat) (z : ZG) (n : Nat) (P : RowsS) (G : GlbS) (xs : va_W) (a1 : Int32) (res : Int32) (P' : RowsS) (G' : GlbS) (h0 : f_X7_load n P G a1 = some (res, P', G')) (sz : Nat) : Met l yX7_load (ws_ yX7_load cX7_load 3 (some .int)) rm_X7_load (PCz z D ca (wC ar ag ca P G ++ xs) sz [.ref (ag 0), .int a1]) (QMw D (wC ar ag ca P G ++ xs) (wC ar ag ca (P') (G') ++ xs) sz (some (.int res))) 1 2 (AL (wC ar ag ca P G ++ xs) sz) := by
  refine met_z (by decide +kernel) (Nat.le_of_ble_eq_true rfl) (fun p e s m args below meth c K hr0 hZ X hsz ls hl => ?_)
  have K : MC D ca p s m args meth c cX7_load 3 RX7 := K
  have hx := K.1
  have hb := K.2.1
  have hl : lv_has ls 3 [(0, .ref (ag 0)), (1, .int a1)] := hl
  generalize hQ : MQ below _ args s 1 2 _ = Q
  unfold f_X7_load at h0
  suffices Z : ∀ (H : Heap) (locs : List Loc) (X : RW D (wC ar ag ca P G ++ xs) s.heap H locs), W p l e rm_X7_load s m args below meth c H locs 0 0 Q (F0 m 0 ls []) from Z _ _ X
  intro H locs X
  refine lv_iload_n hx hb dX7_load_0 rfl (lv_at hl 1 rfl) ?_
  refine lv_iconst (v := 0) hx hb dX7_load_1 (by decide) ?_
  refine lv_aload_n hx hb dX7_load_2 rfl (lv_at hl 0 rfl) ?_
  refine g_objr K X 4 (by decide) rfl q365 dX7_load_3 ?_
  refine g_toki K X 1 (by decide) q283 dX7_load_6 ?_
  obtain ⟨x1, ex1, h0⟩ := ob_out h0
  have kx1 := m_X7_requireWithin l D ca z (wC ar ag ca P G ++ xs) a1 0 (G 3 1)  ex1 H.size
  refine z_callS K hZ X wC_fstx wC_fstx kx1 hl.1 3 q557 q558 q87 q559 hs_X7_requireWithin ⟨⟨Nat.le_of_ble_eq_true rfl, Nat.le_of_ble_eq_true rfl⟩, rfl, rfl⟩ rfl rfl (Nat.le_of_ble_eq_true rfl) dX7_load_9 ⟨Nat.le_of_ble_eq_true rfl, Nat.le_of_ble_eq_true rfl⟩ rfl (fun H locs X => ?_)
  refine lv_aload_n hx hb dX7_load_12 rfl (lv_at hl 0 rfl) ?_
  refine g_objr K X 4 (by decide) rfl q365 dX7_load_13 ?_
  refine lv_iload_n hx hb dX7_load_16 rfl (lv_at hl 1 rfl) ?_
  obtain ⟨x2, ex2, h0⟩ := ob_out h0
  obtain ⟨Gv3, eGv3, h0⟩ := lt_out h0
  have kx2 := m_X5_begin l D ca ar ag n P G xs a1 x2 ex2 H.size
  rw [← eGv3] at kx2
  refine w_callV0 K X wC_fstx kx2 hl.1 1 q626 q627 q628 q92 q629 hv_X5_begin ⟨⟨Nat.le_of_ble_eq_true rfl, Nat.le_of_ble_eq_true rfl⟩, rfl, rfl⟩ (pl_glb (k := 3) (by decide)) rfl rfl rfl rfl (Nat.le_of_ble_eq_true rfl) dX7_load_17 ⟨Nat.le_of_ble_eq_true rfl, Nat.le_of_ble_eq_true rfl⟩ rfl (fun H locs X => ?_)
  refine z_newg K hZ X wC_fstx iX4 tyX4 tyX4_ok q646 q647 q103 (ci := 6) rfl (fs := [.null, .null]) (fun j hj => by rcases j with _ | _ | j <;> first | rfl | omega) (Nat.le_of_ble_eq_true rfl) (Nat.le_of_ble_eq_true rfl) dX7_load_20 (fun gq H hdr hzz X => ?_)
  refine lv_dup hx hb dX7_load_23 rfl ?_
  refine lv_aload_n hx hb dX7_load_24 rfl (lv_at hl 0 rfl) ?_
  refine g_objr K X 4 (by decide) rfl q365 dX7_load_25 ?_
  refine lv_aload_n hx hb dX7_load_28 rfl (lv_at hl 0 rfl) ?_
  refine g_objr K X 1 (by decide) rfl q362 dX7_load_29 ?_
  have kI := m_X4_init l D ca ar ag P Gv3 xs gq (ag 3) (ar 1 0) H.size
  refine w_callI K X ctor_fst kI hl.1 2 q648 q649 q103 q650 rfl hs_X4_init ⟨⟨Nat.le_of_ble_eq_true rfl, Nat.le_of_ble_eq_true rfl⟩, rfl, rfl⟩ rfl rfl (Nat.le_of_ble_eq_true rfl) dX7_load_32 ⟨Nat.le_of_ble_eq_true rfl, Nat.le_of_ble_eq_true rfl⟩ (fun H locs X => ?_)
  have hg : (xs ++ [(gq, .inr (6, [.ref (ag 3), .ref (ar 1 0)]))] : va_W)[xs.length]? = some (gq, .inr (6, [.ref (ag 3), .ref (ar 1 0)])) := ctor_at
  have hZ := hzz [.ref (ag 3), .ref (ar 1 0)]
  have hdr := fun P G H locs => hdr P G [.ref (ag 3), .ref (ar 1 0)] H locs
  generalize xs ++ [(gq, .inr (6, [.ref (ag 3), .ref (ar 1 0)]))] = xs2 at X hg hZ hdr
  refine lv_astore_n (lv' := [(2, .ref gq), (0, .ref (ag 0)), (1, .int a1)]) hx hb dX7_load_35 rfl hl (by decide) rfl (fun ls hl => ?_)
  refine lv_aload_n hx hb dX7_load_36 rfl (lv_at hl 0 rfl) ?_
  obtain ⟨x4, ex4, h0⟩ := ob_out h0
  obtain ⟨Pv5, ePv5, h0⟩ := lt_out h0
  obtain ⟨Gv6, eGv6, h0⟩ := lt_out h0
  have kx4 := m_X4_read l D ca ar ag z n P 1 (P 1) Gv3 xs2 (by decide) gq xs.length hg x4.1 x4.2 ex4 H.size
  rw [up_self, ← ePv5, ← eGv6] at kx4
  refine z_callV K hZ X wC_fstx wC_fstx kx4 hl.1 0 q659 q660 q661 q103 q662 hv_X4_read ⟨⟨Nat.le_of_ble_eq_true rfl, Nat.le_of_ble_eq_true rfl⟩, rfl, rfl⟩ (z_recvw K X (pl_xs.trans hg) rfl rfl) rfl rfl (Nat.le_of_ble_eq_true rfl) dX7_load_37 ⟨Nat.le_of_ble_eq_true rfl, Nat.le_of_ble_eq_true rfl⟩ rfl (fun H locs X => ?_)
  refine lv_aload_n hx hb dX7_load_40 rfl (lv_at hl 1 rfl) ?_
  refine g_objr K X 4 (by decide) rfl q365 dX7_load_41 ?_
  obtain ⟨x7, ex7, h0⟩ := lt_out h0
  obtain ⟨Gv8, eGv8, h0⟩ := lt_out h0
  have kx7 := m_X5_empty l D ca ar ag Pv5 Gv6 xs2 x7 ex7.symm H.size
  rw [← eGv8] at kx7
  refine w_callV0 K X wC_fstx kx7 hl.1 0 q759 q760 q761 q92 q762 hv_X5_empty ⟨⟨Nat.le_of_ble_eq_true rfl, Nat.le_of_ble_eq_true rfl⟩, rfl, rfl⟩ (pl_glb (k := 3) (by decide)) rfl rfl rfl rfl (Nat.le_of_ble_eq_true rfl) dX7_load_44 ⟨Nat.le_of_ble_eq_true rfl, Nat.le_of_ble_eq_true rfl⟩ rfl (fun H locs X => ?_)
  refine lv_aload_n hx hb dX7_load_47 rfl (lv_at hl 1 rfl) ?_
  refine g_objr K X 4 (by decide) rfl q365 dX7_load_48 ?_
  refine g_toki K X 7 (by decide) q291 dX7_load_51 ?_
  refine lv_if_eq (tgt := 68) hx hb dX7_load_54 (by decide) (fun c9 => ?_) (fun c9 => ?_)
  · have h0 := if_t c9 h0
    refine lv_aload_n hx hb dX7_load_68 rfl (lv_at hl 1 rfl) ?_
    refine g_objr K X 0 (by decide) rfl q361 dX7_load_69 ?_
    refine lv_aload_n hx hb dX7_load_72 rfl (lv_at hl 1 rfl) ?_
    refine g_objr K X 1 (by decide) rfl q362 dX7_load_73 ?_
    obtain ⟨x10, ex10, h0⟩ := ob_out h0
    obtain ⟨Pv11, ePv11, h0⟩ := lt_out h0
    have kx10 := mC_X3_copyFrom l D ca ar ag n Pv5 0 Gv8 xs2 (by decide) 1 (by decide) (by decide) x10 ex10 H.size
    rw [← ePv11] at kx10
    refine w_callV0 K X wC_fstx kx10 hl.1 1 q540 q517 q518 q88 q519 hv_X3_copyFrom ⟨⟨Nat.le_of_ble_eq_true rfl, Nat.le_of_ble_eq_true rfl⟩, rfl, rfl⟩ (pl_rowo (by decide)) rfl rfl rfl rfl (Nat.le_of_ble_eq_true rfl) dX7_load_76 ⟨Nat.le_of_ble_eq_true rfl, Nat.le_of_ble_eq_true rfl⟩ rfl (fun H locs X => ?_)
    refine lv_aload_n hx hb dX7_load_79 rfl (lv_at hl 1 rfl) ?_
    refine g_objr K X 0 (by decide) rfl q361 dX7_load_80 ?_
    obtain ⟨x12, ex12, h0⟩ := ob_out h0
    obtain ⟨Pv13, ePv13, h0⟩ := lt_out h0
    have kx12 := mC_X3_settle l D ca ar ag n Pv11 0 Gv8 xs2 (by decide) x12.1 x12.2 ex12 H.size
    rw [← ePv13] at kx12
    refine w_callV0 K X wC_fstx kx12 hl.1 0 q763 q764 q765 q88 q766 hv_X3_settle ⟨⟨Nat.le_of_ble_eq_true rfl, Nat.le_of_ble_eq_true rfl⟩, rfl, rfl⟩ (pl_rowo (by decide)) rfl rfl rfl rfl (Nat.le_of_ble_eq_true rfl) dX7_load_83 ⟨Nat.le_of_ble_eq_true rfl, Nat.le_of_ble_eq_true rfl⟩ rfl (fun H locs X => ?_)
    refine lv_pop hx hb dX7_load_86 rfl ?_
    refine lv_aload_n hx hb dX7_load_87 rfl (lv_at hl 1 rfl) ?_
    refine g_objr K X 3 (by decide) rfl q364 dX7_load_88 ?_
    obtain ⟨x14, ex14, h0⟩ := lt_out h0
    obtain ⟨Gv15, eGv15, h0⟩ := lt_out h0
    have kx14 := m_X0_clear l D ca ar ag Pv13 Gv8 xs2 x14 ex14.symm H.size
    rw [← eGv15] at kx14
    refine w_callV0 K X wC_fstx kx14 hl.1 0 q545 q546 q547 q91 q548 hv_X0_clear ⟨⟨Nat.le_of_ble_eq_true rfl, Nat.le_of_ble_eq_true rfl⟩, rfl, rfl⟩ (pl_glb (k := 1) (by decide)) rfl rfl rfl rfl (Nat.le_of_ble_eq_true rfl) dX7_load_91 ⟨Nat.le_of_ble_eq_true rfl, Nat.le_of_ble_eq_true rfl⟩ rfl (fun H locs X => ?_)
    refine lv_aload_n hx hb dX7_load_94 rfl (lv_at hl 1 rfl) ?_
    refine lv_iconst (v := 0) hx hb dX7_load_95 (by decide) ?_
    obtain ⟨Gv16, eGv16, h0⟩ := lt_out h0
    refine p_objz K X (by decide) eGv16 q367 dX7_load_96 (fun H locs X => ?_)
    refine lv_aload_n hx hb dX7_load_99 rfl (lv_at hl 1 rfl) ?_
    refine g_objr K X 0 (by decide) rfl q361 dX7_load_100 ?_
    refine lv_iconst (v := 0) hx hb dX7_load_103 (by decide) ?_
    obtain ⟨x17, ex17, h0⟩ := ob_out h0
    have kx17 := mC_X3_countInState l D ca ar ag n Pv13 0 Gv16 xs2 (by decide) 0 x17 ex17 H.size
    refine w_callV0 K X wC_fstx kx17 hl.1 1 q455 q456 q457 q88 q458 hv_X3_countInState ⟨⟨Nat.le_of_ble_eq_true rfl, Nat.le_of_ble_eq_true rfl⟩, rfl, rfl⟩ (pl_rowo (by decide)) rfl rfl rfl rfl (Nat.le_of_ble_eq_true rfl) dX7_load_104 ⟨Nat.le_of_ble_eq_true rfl, Nat.le_of_ble_eq_true rfl⟩ rfl (fun H locs X => ?_)
    have h0 := Option.some.inj h0
    obtain ⟨q_0, h0⟩ := Prod.mk.inj h0
    obtain ⟨q_1, q_2⟩ := Prod.mk.inj h0
    subst q_0
    subst q_1
    subst q_2
    subst hQ
    exact w_iret K hr0 (hdr _ _ _ _ X) wC_fstx hsz dX7_load_107
  · have h0 := if_f c9 h0
    refine lv_bipush (v := (-10)) hx hb dX7_load_57 (by decide) ?_
    refine lv_aload_n hx hb dX7_load_59 rfl (lv_at hl 1 rfl) ?_
    refine g_objr K X 4 (by decide) rfl q365 dX7_load_60 ?_
    refine g_toki K X 7 (by decide) q291 dX7_load_63 ?_
    refine lv_isub hx hb dX7_load_66 ?_
    have h0 := Option.some.inj h0
    obtain ⟨q_0, h0⟩ := Prod.mk.inj h0
    obtain ⟨q_1, q_2⟩ := Prod.mk.inj h0
    subst q_0
    subst q_1
    subst q_2
    subst hQ
    exact w_iret K hr0 (hdr _ _ _ _ X) wC_fstx hsz dX7_load_67
-- X7_errorPosition
def f_X7_errorPosition (P : RowsS) (G : GlbS) : Int32 :=
  (G 3 8)
abbrev rm_X7_errorPosition : Room := { frames := 0, cells := 0, slots := 0, locals := 0 }
set_option maxRecDepth 100000 in
set_option maxHeartbeats 4000000 in
theorem m_X7_errorPosition (l : Launch) (D : va_G) (ca : Nat → ClassId) (ar : Nat → Nat → Nat) (ag : Nat → Nat) (P : RowsS) (G : GlbS) (xs : va_W) (res : Int32) (h0 : f_X7_errorPosition P G = res) (sz : Nat) : Met l yX7_errorPosition (ws_ yX7_errorPosition cX7_errorPosition 1 (some .int)) rm_X7_errorPosition (PCw D ca (wC ar ag ca P G ++ xs) sz [.ref (ag 0)]) (QMw D (wC ar ag ca P G ++ xs) (wC ar ag ca P G ++ xs) sz (some (.int res))) 0 0 (AL (wC ar ag ca P G ++ xs) sz) := by
  refine met_of (by decide) (Nat.le_of_ble_eq_true rfl) (fun p e s m args below meth c K hr0 X hsz ls hl => ?_)
  have K : MC D ca p s m args meth c cX7_errorPosition 1 RX7 := K
  have hx := K.1
  have hb := K.2.1
  have hl : lv_has ls 1 [(0, .ref (ag 0))] := hl
  generalize hQ : MQ below _ args s 0 0 _ = Q
  unfold f_X7_errorPosition at h0
  suffices Z : ∀ (H : Heap) (locs : List Loc) (X : RW D (wC ar ag ca P G ++ xs) s.heap H locs), W p l e rm_X7_errorPosition s m args below meth c H locs 0 0 Q (F0 m 0 ls []) from Z _ _ X
  intro H locs X
  refine lv_aload_n hx hb dX7_errorPosition_0 rfl (lv_at hl 0 rfl) ?_
  refine g_objr K X 4 (by decide) rfl q365 dX7_errorPosition_1 ?_
  refine g_toki K X 8 (by decide) q294 dX7_errorPosition_4 ?_
  subst h0
  subst hQ
  exact w_iret K hr0 X wC_fstx hsz dX7_errorPosition_7
-- X7_size
def f_X7_size (n : Nat) (P : RowsS) (G : GlbS) (a1 : Int32) : Option Int32 :=
  if a1 = 0 then
    some ((P 0).1 0 0)
  else if a1 = 1 then
    some ((P 0).1 0 1)
  else if a1 = 2 then
    some ((P 0).1 0 2)
  else if a1 = 3 then
    ob (f_X3_countInState n (P 0) 0) fun x5 =>
    some x5
  else if a1 = 4 then
    ob (f_X3_countInState n (P 0) 1) fun x7 =>
    some x7
  else if a1 = 5 then
    ob (f_X3_countInState n (P 0) 2) fun x9 =>
    some x9
  else if a1 = 6 then
    ob (f_X3_countInLeg n (P 0) 0) fun x11 =>
    some x11
  else if a1 = 7 then
    ob (f_X3_countInLeg n (P 0) 1) fun x13 =>
    some x13
  else none
abbrev rm_X7_size : Room := { frames := 2, cells := 0, slots := 0, locals := 44 }
set_option maxRecDepth 100000 in
set_option maxHeartbeats 4000000 in
theorem m_X7_size (l : Launch) (D : va_G) (ca : Nat → ClassId) (ar : Nat → Nat → Nat) (ag : Nat → Nat) (z : ZG) (n : Nat) (P : RowsS) (G : GlbS) (xs : va_W) (a1 : Int32) (res : Int32) (h0 : f_X7_size n P G a1 = some res) (sz : Nat) : Met l yX7_size (ws_ yX7_size cX7_size 2 (some .int)) rm_X7_size (PCz z D ca (wC ar ag ca P G ++ xs) sz [.ref (ag 0), .int a1]) (QMw D (wC ar ag ca P G ++ xs) (wC ar ag ca P G ++ xs) sz (some (.int res))) 0 0 (AL (wC ar ag ca P G ++ xs) sz) := by
  refine met_z (by decide +kernel) (Nat.le_of_ble_eq_true rfl) (fun p e s m args below meth c K hr0 hZ X hsz ls hl => ?_)
  have K : MC D ca p s m args meth c cX7_size 2 RX7 := K
  have hx := K.1
  have hb := K.2.1
  have hl : lv_has ls 2 [(0, .ref (ag 0)), (1, .int a1)] := hl
  generalize hQ : MQ below _ args s 0 0 _ = Q
  unfold f_X7_size at h0
  suffices Z : ∀ (H : Heap) (locs : List Loc) (X : RW D (wC ar ag ca P G ++ xs) s.heap H locs), W p l e rm_X7_size s m args below meth c H locs 0 0 Q (F0 m 0 ls []) from Z _ _ X
  intro H locs X
  refine lv_iload_n hx hb dX7_size_0 rfl (lv_at hl 1 rfl) ?_
  by_cases c1 : a1 = 0
  · have h0 := if_t c1 h0
    refine lv_tableIn (off := 47) (tgt := 48) hx hb dX7_size_1 (by rw [c1]; decide) (by rw [c1]; decide) (by rw [c1]; decide) (by decide) ?_
    refine lv_aload_n hx hb dX7_size_48 rfl (lv_at hl 0 rfl) ?_
    refine g_objr K X 0 (by decide) rfl q361 dX7_size_49 ?_
    refine g_rowi K X (by decide) rfl 0 (by decide) q226 dX7_size_52 ?_
    have h0 := Option.some.inj h0
    subst h0
    subst hQ
    exact w_iret K hr0 X wC_fstx hsz dX7_size_55
  have h0 := if_f c1 h0
  by_cases c2 : a1 = 1
  · have h0 := if_t c2 h0
    refine lv_tableIn (off := 55) (tgt := 56) hx hb dX7_size_1 (by rw [c2]; decide) (by rw [c2]; decide) (by rw [c2]; decide) (by decide) ?_
    refine lv_aload_n hx hb dX7_size_56 rfl (lv_at hl 0 rfl) ?_
    refine g_objr K X 0 (by decide) rfl q361 dX7_size_57 ?_
    refine g_rowi K X (by decide) rfl 1 (by decide) q228 dX7_size_60 ?_
    have h0 := Option.some.inj h0
    subst h0
    subst hQ
    exact w_iret K hr0 X wC_fstx hsz dX7_size_63
  have h0 := if_f c2 h0
  by_cases c3 : a1 = 2
  · have h0 := if_t c3 h0
    refine lv_tableIn (off := 63) (tgt := 64) hx hb dX7_size_1 (by rw [c3]; decide) (by rw [c3]; decide) (by rw [c3]; decide) (by decide) ?_
    refine lv_aload_n hx hb dX7_size_64 rfl (lv_at hl 0 rfl) ?_
    refine g_objr K X 0 (by decide) rfl q361 dX7_size_65 ?_
    refine g_rowi K X (by decide) rfl 2 (by decide) q231 dX7_size_68 ?_
    have h0 := Option.some.inj h0
    subst h0
    subst hQ
    exact w_iret K hr0 X wC_fstx hsz dX7_size_71
  have h0 := if_f c3 h0
  by_cases c4 : a1 = 3
  · have h0 := if_t c4 h0
    refine lv_tableIn (off := 71) (tgt := 72) hx hb dX7_size_1 (by rw [c4]; decide) (by rw [c4]; decide) (by rw [c4]; decide) (by decide) ?_
    refine lv_aload_n hx hb dX7_size_72 rfl (lv_at hl 0 rfl) ?_
    refine g_objr K X 0 (by decide) rfl q361 dX7_size_73 ?_
    refine lv_iconst (v := 0) hx hb dX7_size_76 (by decide) ?_
    obtain ⟨x5, ex5, h0⟩ := ob_out h0
    have kx5 := mC_X3_countInState l D ca ar ag n P 0 G xs (by decide) 0 x5 ex5 H.size
    refine w_callV0 K X wC_fstx kx5 hl.1 1 q455 q456 q457 q88 q458 hv_X3_countInState ⟨⟨Nat.le_of_ble_eq_true rfl, Nat.le_of_ble_eq_true rfl⟩, rfl, rfl⟩ (pl_rowo (by decide)) rfl rfl rfl rfl (Nat.le_of_ble_eq_true rfl) dX7_size_77 ⟨Nat.le_of_ble_eq_true rfl, Nat.le_of_ble_eq_true rfl⟩ rfl (fun H locs X => ?_)
    have h0 := Option.some.inj h0
    subst h0
    subst hQ
    exact w_iret K hr0 X wC_fstx hsz dX7_size_80
  have h0 := if_f c4 h0
  by_cases c6 : a1 = 4
  · have h0 := if_t c6 h0
    refine lv_tableIn (off := 80) (tgt := 81) hx hb dX7_size_1 (by rw [c6]; decide) (by rw [c6]; decide) (by rw [c6]; decide) (by decide) ?_
    refine lv_aload_n hx hb dX7_size_81 rfl (lv_at hl 0 rfl) ?_
    refine g_objr K X 0 (by decide) rfl q361 dX7_size_82 ?_
    refine lv_iconst (v := 1) hx hb dX7_size_85 (by decide) ?_
    obtain ⟨x7, ex7, h0⟩ := ob_out h0
    have kx7 := mC_X3_countInState l D ca ar ag n P 0 G xs (by decide) 1 x7 ex7 H.size
    refine w_callV0 K X wC_fstx kx7 hl.1 1 q455 q456 q457 q88 q458 hv_X3_countInState ⟨⟨Nat.le_of_ble_eq_true rfl, Nat.le_of_ble_eq_true rfl⟩, rfl, rfl⟩ (pl_rowo (by decide)) rfl rfl rfl rfl (Nat.le_of_ble_eq_true rfl) dX7_size_86 ⟨Nat.le_of_ble_eq_true rfl, Nat.le_of_ble_eq_true rfl⟩ rfl (fun H locs X => ?_)
    have h0 := Option.some.inj h0
    subst h0
    subst hQ
    exact w_iret K hr0 X wC_fstx hsz dX7_size_89
  have h0 := if_f c6 h0
  by_cases c8 : a1 = 5
  · have h0 := if_t c8 h0
    refine lv_tableIn (off := 89) (tgt := 90) hx hb dX7_size_1 (by rw [c8]; decide) (by rw [c8]; decide) (by rw [c8]; decide) (by decide) ?_
    refine lv_aload_n hx hb dX7_size_90 rfl (lv_at hl 0 rfl) ?_
    refine g_objr K X 0 (by decide) rfl q361 dX7_size_91 ?_
    refine lv_iconst (v := 2) hx hb dX7_size_94 (by decide) ?_
    obtain ⟨x9, ex9, h0⟩ := ob_out h0
    have kx9 := mC_X3_countInState l D ca ar ag n P 0 G xs (by decide) 2 x9 ex9 H.size
    refine w_callV0 K X wC_fstx kx9 hl.1 1 q455 q456 q457 q88 q458 hv_X3_countInState ⟨⟨Nat.le_of_ble_eq_true rfl, Nat.le_of_ble_eq_true rfl⟩, rfl, rfl⟩ (pl_rowo (by decide)) rfl rfl rfl rfl (Nat.le_of_ble_eq_true rfl) dX7_size_95 ⟨Nat.le_of_ble_eq_true rfl, Nat.le_of_ble_eq_true rfl⟩ rfl (fun H locs X => ?_)
    have h0 := Option.some.inj h0
    subst h0
    subst hQ
    exact w_iret K hr0 X wC_fstx hsz dX7_size_98
  have h0 := if_f c8 h0
  by_cases c10 : a1 = 6
  · have h0 := if_t c10 h0
    refine lv_tableIn (off := 98) (tgt := 99) hx hb dX7_size_1 (by rw [c10]; decide) (by rw [c10]; decide) (by rw [c10]; decide) (by decide) ?_
    refine lv_aload_n hx hb dX7_size_99 rfl (lv_at hl 0 rfl) ?_
    refine g_objr K X 0 (by decide) rfl q361 dX7_size_100 ?_
    refine lv_iconst (v := 0) hx hb dX7_size_103 (by decide) ?_
    obtain ⟨x11, ex11, h0⟩ := ob_out h0
    have kx11 := mC_X3_countInLeg l D ca ar ag n P 0 G xs (by decide) 0 x11 ex11 H.size
    refine w_callV0 K X wC_fstx kx11 hl.1 1 q824 q825 q826 q88 q827 hv_X3_countInLeg ⟨⟨Nat.le_of_ble_eq_true rfl, Nat.le_of_ble_eq_true rfl⟩, rfl, rfl⟩ (pl_rowo (by decide)) rfl rfl rfl rfl (Nat.le_of_ble_eq_true rfl) dX7_size_104 ⟨Nat.le_of_ble_eq_true rfl, Nat.le_of_ble_eq_true rfl⟩ rfl (fun H locs X => ?_)
    have h0 := Option.some.inj h0
    subst h0
    subst hQ
    exact w_iret K hr0 X wC_fstx hsz dX7_size_107
  have h0 := if_f c10 h0
  by_cases c12 : a1 = 7
  · have h0 := if_t c12 h0
    refine lv_tableIn (off := 107) (tgt := 108) hx hb dX7_size_1 (by rw [c12]; decide) (by rw [c12]; decide) (by rw [c12]; decide) (by decide) ?_
    refine lv_aload_n hx hb dX7_size_108 rfl (lv_at hl 0 rfl) ?_
    refine g_objr K X 0 (by decide) rfl q361 dX7_size_109 ?_
    refine lv_iconst (v := 1) hx hb dX7_size_112 (by decide) ?_
    obtain ⟨x13, ex13, h0⟩ := ob_out h0
    have kx13 := mC_X3_countInLeg l D ca ar ag n P 0 G xs (by decide) 1 x13 ex13 H.size
    refine w_callV0 K X wC_fstx kx13 hl.1 1 q824 q825 q826 q88 q827 hv_X3_countInLeg ⟨⟨Nat.le_of_ble_eq_true rfl, Nat.le_of_ble_eq_true rfl⟩, rfl, rfl⟩ (pl_rowo (by decide)) rfl rfl rfl rfl (Nat.le_of_ble_eq_true rfl) dX7_size_113 ⟨Nat.le_of_ble_eq_true rfl, Nat.le_of_ble_eq_true rfl⟩ rfl (fun H locs X => ?_)
    have h0 := Option.some.inj h0
    subst h0
    subst hQ
    exact w_iret K hr0 X wC_fstx hsz dX7_size_116
  have h0 := if_f c12 h0
  refine lv_tableOut (tgt := 117) hx hb dX7_size_1 (by have gc1 := lv_neT (a := 0) c1 (by decide); have gc2 := lv_neT (a := 1) c2 (by decide); have gc3 := lv_neT (a := 2) c3 (by decide); have gc4 := lv_neT (a := 3) c4 (by decide); have gc6 := lv_neT (a := 4) c6 (by decide); have gc8 := lv_neT (a := 5) c8 (by decide); have gc10 := lv_neT (a := 6) c10 (by decide); have gc12 := lv_neT (a := 7) c12 (by decide); omega) (by decide) ?_
  cases h0
-- X7_requirePoint
def b_X7_requirePoint_15   : Option Unit :=
  none
def f_X7_requirePoint (P : RowsS) (G : GlbS) (a1 : Int32) : Option Unit :=
  if a1 < 0 then
    b_X7_requirePoint_15
  else
    if a1 < ((P 0).1 0 0) then
      some ()
    else
      b_X7_requirePoint_15
abbrev rm_X7_requirePoint : Room := { frames := 0, cells := 0, slots := 0, locals := 0 }
set_option maxRecDepth 100000 in
set_option maxHeartbeats 4000000 in
theorem m_X7_requirePoint (l : Launch) (D : va_G) (ca : Nat → ClassId) (ar : Nat → Nat → Nat) (ag : Nat → Nat) (z : ZG) (P : RowsS) (G : GlbS) (xs : va_W) (a1 : Int32)  (h0 : f_X7_requirePoint P G a1 = some ()) (sz : Nat) : Met l yX7_requirePoint (ws_ yX7_requirePoint cX7_requirePoint 2 none) rm_X7_requirePoint (PCz z D ca (wC ar ag ca P G ++ xs) sz [.ref (ag 0), .int a1]) (QMw D (wC ar ag ca P G ++ xs) (wC ar ag ca P G ++ xs) sz none) 0 0 (AL (wC ar ag ca P G ++ xs) sz) := by
  refine met_z (by decide +kernel) (Nat.le_of_ble_eq_true rfl) (fun p e s m args below meth c K hr0 hZ X hsz ls hl => ?_)
  have K : MC D ca p s m args meth c cX7_requirePoint 2 RX7 := K
  have hx := K.1
  have hb := K.2.1
  have hl : lv_has ls 2 [(0, .ref (ag 0)), (1, .int a1)] := hl
  generalize hQ : MQ below _ args s 0 0 _ = Q
  unfold f_X7_requirePoint at h0
  suffices Z : ∀ (H : Heap) (locs : List Loc) (X : RW D (wC ar ag ca P G ++ xs) s.heap H locs), W p l e rm_X7_requirePoint s m args below meth c H locs 0 0 Q (F0 m 0 ls []) from Z _ _ X
  intro H locs X
  have J15 : ∀  (H : Heap) (locs : List Loc) (X : RW D (wC ar ag ca P G ++ xs) s.heap H locs) (ls : Array Slot) (hl : lv_has ls 2 []) (h0 : b_X7_requirePoint_15 = some ()), W p l e rm_X7_requirePoint s m args below meth c H locs 0 0 Q (F0 m 15 ls []) := by
    intro  H locs X ls hl h0
    unfold b_X7_requirePoint_15 at h0
    cases h0
  refine lv_iload_n hx hb dX7_requirePoint_0 rfl (lv_at hl 1 rfl) ?_
  refine lv_if_lt (tgt := 15) hx hb dX7_requirePoint_1 (by decide) (fun c1 => ?_) (fun c1 => ?_)
  · have h0 := if_t c1 h0
    exact J15  H locs X ls (lv_sub hl [] rfl) h0
  · have h0 := if_f c1 h0
    refine lv_iload_n hx hb dX7_requirePoint_4 rfl (lv_at hl 1 rfl) ?_
    refine lv_aload_n hx hb dX7_requirePoint_5 rfl (lv_at hl 0 rfl) ?_
    refine g_objr K X 0 (by decide) rfl q361 dX7_requirePoint_6 ?_
    refine g_rowi K X (by decide) rfl 0 (by decide) q226 dX7_requirePoint_9 ?_
    refine lv_icmp_lt (tgt := 26) hx hb dX7_requirePoint_12 (by decide) (fun c2 => ?_) (fun c2 => ?_)
    · have h0 := if_t c2 h0
      have h0 := Option.some.inj h0
      subst hQ
      exact w_vret K hr0 X wC_fstx hsz dX7_requirePoint_26
    · have h0 := if_f c2 h0
      exact J15  H locs X ls (lv_sub hl [] rfl) h0
-- X7_pressure
def f_X7_pressure (P : RowsS) (G : GlbS) (a1 : Int32) : Option Int32 :=
  ob (f_X7_requirePoint P G a1) fun x1 =>
  lt (f_X3_pressureAt (P 0) a1) fun x2 =>
  some x2
abbrev rm_X7_pressure : Room := { frames := 1, cells := 0, slots := 0, locals := 21 }
set_option maxRecDepth 100000 in
set_option maxHeartbeats 4000000 in
theorem m_X7_pressure (l : Launch) (D : va_G) (ca : Nat → ClassId) (ar : Nat → Nat → Nat) (ag : Nat → Nat) (z : ZG) (P : RowsS) (G : GlbS) (xs : va_W) (a1 : Int32) (res : Int32) (h0 : f_X7_pressure P G a1 = some res) (sz : Nat) : Met l yX7_pressure (ws_ yX7_pressure cX7_pressure 2 (some .int)) rm_X7_pressure (PCz z D ca (wC ar ag ca P G ++ xs) sz [.ref (ag 0), .int a1]) (QMw D (wC ar ag ca P G ++ xs) (wC ar ag ca P G ++ xs) sz (some (.int res))) 0 0 (AL (wC ar ag ca P G ++ xs) sz) := by
  refine met_z (by decide +kernel) (Nat.le_of_ble_eq_true rfl) (fun p e s m args below meth c K hr0 hZ X hsz ls hl => ?_)
  have K : MC D ca p s m args meth c cX7_pressure 2 RX7 := K
  have hx := K.1
  have hb := K.2.1
  have hl : lv_has ls 2 [(0, .ref (ag 0)), (1, .int a1)] := hl
  generalize hQ : MQ below _ args s 0 0 _ = Q
  unfold f_X7_pressure at h0
  suffices Z : ∀ (H : Heap) (locs : List Loc) (X : RW D (wC ar ag ca P G ++ xs) s.heap H locs), W p l e rm_X7_pressure s m args below meth c H locs 0 0 Q (F0 m 0 ls []) from Z _ _ X
  intro H locs X
  refine lv_aload_n hx hb dX7_pressure_0 rfl (lv_at hl 0 rfl) ?_
  refine lv_iload_n hx hb dX7_pressure_1 rfl (lv_at hl 1 rfl) ?_
  obtain ⟨x1, ex1, h0⟩ := ob_out h0
  have kx1 := m_X7_requirePoint l D ca ar ag z P G xs a1  ex1 H.size
  refine z_callV K hZ X wC_fstx wC_fstx kx1 hl.1 1 q851 q853 q9 q87 q854 hv_X7_requirePoint ⟨⟨Nat.le_of_ble_eq_true rfl, Nat.le_of_ble_eq_true rfl⟩, rfl, rfl⟩ (z_recvw K X (pl_glb (k := 0) (by decide)) rfl rfl) rfl rfl (Nat.le_of_ble_eq_true rfl) dX7_pressure_2 ⟨Nat.le_of_ble_eq_true rfl, Nat.le_of_ble_eq_true rfl⟩ rfl (fun H locs X => ?_)
  refine lv_aload_n hx hb dX7_pressure_5 rfl (lv_at hl 0 rfl) ?_
  refine g_objr K X 0 (by decide) rfl q361 dX7_pressure_6 ?_
  refine lv_iload_n hx hb dX7_pressure_9 rfl (lv_at hl 1 rfl) ?_
  obtain ⟨x2, ex2, h0⟩ := lt_out h0
  have kx2 := mC_X3_pressureAt l D ca ar ag P 0 G xs (by decide) a1 x2 ex2.symm H.size
  refine w_callV0 K X wC_fstx kx2 hl.1 1 q856 q437 q438 q88 q439 hv_X3_pressureAt ⟨⟨Nat.le_of_ble_eq_true rfl, Nat.le_of_ble_eq_true rfl⟩, rfl, rfl⟩ (pl_rowo (by decide)) rfl rfl rfl rfl (Nat.le_of_ble_eq_true rfl) dX7_pressure_10 ⟨Nat.le_of_ble_eq_true rfl, Nat.le_of_ble_eq_true rfl⟩ rfl (fun H locs X => ?_)
  have h0 := Option.some.inj h0
  subst h0
  subst hQ
  exact w_iret K hr0 X wC_fstx hsz dX7_pressure_13
-- X7_requireLeg
def f_X7_requireLeg (a1 : Int32) : Option Unit :=
  if a1 = 0 then
    some ()
  else
    if a1 = 1 then
      some ()
    else
      none
abbrev rm_X7_requireLeg : Room := { frames := 0, cells := 0, slots := 0, locals := 0 }
set_option maxRecDepth 100000 in
set_option maxHeartbeats 4000000 in
theorem m_X7_requireLeg (l : Launch) (D : va_G) (ca : Nat → ClassId) (z : ZG) (ws : va_W) (a1 : Int32)  (h0 : f_X7_requireLeg a1 = some ()) (sz : Nat) : Met l yX7_requireLeg (ws_ yX7_requireLeg cX7_requireLeg 1 none) rm_X7_requireLeg (PCz z D ca (ws) sz [.int a1]) (QMw D (ws) (ws) sz none) 0 0 (AL (ws) sz) := by
  refine met_z (by decide +kernel) (Nat.le_of_ble_eq_true rfl) (fun p e s m args below meth c K hr0 hZ X hsz ls hl => ?_)
  have K : MC D ca p s m args meth c cX7_requireLeg 1 RX7 := K
  have hx := K.1
  have hb := K.2.1
  have hl : lv_has ls 1 [(0, .int a1)] := hl
  generalize hQ : MQ below _ args s 0 0 _ = Q
  unfold f_X7_requireLeg at h0
  suffices Z : ∀ (H : Heap) (locs : List Loc) (X : RW D (ws) s.heap H locs), W p l e rm_X7_requireLeg s m args below meth c H locs 0 0 Q (F0 m 0 ls []) from Z _ _ X
  intro H locs X
  refine lv_iload_n hx hb dX7_requireLeg_0 rfl (lv_at hl 0 rfl) ?_
  refine lv_if_eq (tgt := 20) hx hb dX7_requireLeg_1 (by decide) (fun c1 => ?_) (fun c1 => ?_)
  · have h0 := if_t c1 h0
    have h0 := Option.some.inj h0
    subst hQ
    exact w_vret K hr0 X rfl hsz dX7_requireLeg_20
  · have h0 := if_f c1 h0
    refine lv_iload_n hx hb dX7_requireLeg_4 rfl (lv_at hl 0 rfl) ?_
    refine lv_iconst (v := 1) hx hb dX7_requireLeg_5 (by decide) ?_
    refine lv_icmp_eq (tgt := 20) hx hb dX7_requireLeg_6 (by decide) (fun c2 => ?_) (fun c2 => ?_)
    · have h0 := if_t c2 h0
      have h0 := Option.some.inj h0
      subst hQ
      exact w_vret K hr0 X rfl hsz dX7_requireLeg_20
    · have h0 := if_f c2 h0
      cases h0
-- X7_leg
def f_X7_leg (P : RowsS) (G : GlbS) (a1 : Int32) (a2 : Int32) : Option Int32 :=
  ob (f_X7_requireLeg a1) fun x1 =>
  lt (f_X3_legAt (P 0) a1) fun x2 =>
  lt (x2) fun j3 =>
  if a2 = 0 then
    some ((P 0).1 (j3 + 2) 0)
  else if a2 = 1 then
    some ((P 0).1 (j3 + 2) 1)
  else if a2 = 2 then
    some ((P 0).1 (j3 + 2) 2)
  else if a2 = 3 then
    some (((P 0).2 (j3 + 2) 6).toInt32)
  else none
abbrev rm_X7_leg : Room := { frames := 1, cells := 0, slots := 0, locals := 21 }
set_option maxRecDepth 100000 in
set_option maxHeartbeats 4000000 in
theorem m_X7_leg (l : Launch) (D : va_G) (ca : Nat → ClassId) (ar : Nat → Nat → Nat) (ag : Nat → Nat) (z : ZG) (P : RowsS) (G : GlbS) (xs : va_W) (a1 : Int32) (a2 : Int32) (res : Int32) (h0 : f_X7_leg P G a1 a2 = some res) (sz : Nat) : Met l yX7_leg (ws_ yX7_leg cX7_leg 4 (some .int)) rm_X7_leg (PCz z D ca (wC ar ag ca P G ++ xs) sz [.ref (ag 0), .int a1, .int a2]) (QMw D (wC ar ag ca P G ++ xs) (wC ar ag ca P G ++ xs) sz (some (.int res))) 0 0 (AL (wC ar ag ca P G ++ xs) sz) := by
  refine met_z (by decide +kernel) (Nat.le_of_ble_eq_true rfl) (fun p e s m args below meth c K hr0 hZ X hsz ls hl => ?_)
  have K : MC D ca p s m args meth c cX7_leg 4 RX7 := K
  have hx := K.1
  have hb := K.2.1
  have hl : lv_has ls 4 [(0, .ref (ag 0)), (1, .int a1), (2, .int a2)] := hl
  generalize hQ : MQ below _ args s 0 0 _ = Q
  unfold f_X7_leg at h0
  suffices Z : ∀ (H : Heap) (locs : List Loc) (X : RW D (wC ar ag ca P G ++ xs) s.heap H locs), W p l e rm_X7_leg s m args below meth c H locs 0 0 Q (F0 m 0 ls []) from Z _ _ X
  intro H locs X
  refine lv_iload_n hx hb dX7_leg_0 rfl (lv_at hl 1 rfl) ?_
  obtain ⟨x1, ex1, h0⟩ := ob_out h0
  have kx1 := m_X7_requireLeg l D ca z (wC ar ag ca P G ++ xs) a1  ex1 H.size
  refine z_callS K hZ X wC_fstx wC_fstx kx1 hl.1 1 q864 q865 q87 q866 hs_X7_requireLeg ⟨⟨Nat.le_of_ble_eq_true rfl, Nat.le_of_ble_eq_true rfl⟩, rfl, rfl⟩ rfl rfl (Nat.le_of_ble_eq_true rfl) dX7_leg_1 ⟨Nat.le_of_ble_eq_true rfl, Nat.le_of_ble_eq_true rfl⟩ rfl (fun H locs X => ?_)
  refine lv_aload_n hx hb dX7_leg_4 rfl (lv_at hl 0 rfl) ?_
  refine g_objr K X 0 (by decide) rfl q361 dX7_leg_5 ?_
  refine lv_iload_n hx hb dX7_leg_8 rfl (lv_at hl 1 rfl) ?_
  obtain ⟨x2, ex2, h0⟩ := lt_out h0
  have kx2 := mC_X3_legAt l D ca ar ag P 0 G xs (by decide) a1 x2 ex2.symm H.size
  refine w_callV0 K X wC_fstx kx2 hl.1 1 q868 q416 q417 q88 q418 hv_X3_legAt ⟨⟨Nat.le_of_ble_eq_true rfl, Nat.le_of_ble_eq_true rfl⟩, rfl, rfl⟩ (pl_rowo (by decide)) rfl rfl rfl rfl (Nat.le_of_ble_eq_true rfl) dX7_leg_9 ⟨Nat.le_of_ble_eq_true rfl, Nat.le_of_ble_eq_true rfl⟩ rfl (fun H locs X => ?_)
  obtain ⟨j3, ej3, h0⟩ := lt_out h0
  rw [← ej3]
  have hj3 : j3 < 2 := by rw [ej3]; exact lt_X3_legAt ex2
  refine lv_astore_n (lv' := [(3, .ref (ar 0 (j3 + 2))), (0, .ref (ag 0)), (1, .int a1), (2, .int a2)]) hx hb dX7_leg_12 rfl hl (by decide) rfl (fun ls hl => ?_)
  refine lv_iload_n hx hb dX7_leg_13 rfl (lv_at hl 3 rfl) ?_
  by_cases c4 : a2 = 0
  · have h0 := if_t c4 h0
    refine lv_tableIn (off := 30) (tgt := 44) hx hb dX7_leg_14 (by rw [c4]; decide) (by rw [c4]; decide) (by rw [c4]; decide) (by decide) ?_
    refine lv_aload_n hx hb dX7_leg_44 rfl (lv_at hl 0 rfl) ?_
    refine g_legi K X (by decide) hj3 rfl 0 (by decide) q134 dX7_leg_45 ?_
    have h0 := Option.some.inj h0
    subst h0
    subst hQ
    exact w_iret K hr0 X wC_fstx hsz dX7_leg_48
  have h0 := if_f c4 h0
  by_cases c5 : a2 = 1
  · have h0 := if_t c5 h0
    refine lv_tableIn (off := 35) (tgt := 49) hx hb dX7_leg_14 (by rw [c5]; decide) (by rw [c5]; decide) (by rw [c5]; decide) (by decide) ?_
    refine lv_aload_n hx hb dX7_leg_49 rfl (lv_at hl 0 rfl) ?_
    refine g_legi K X (by decide) hj3 rfl 1 (by decide) q137 dX7_leg_50 ?_
    have h0 := Option.some.inj h0
    subst h0
    subst hQ
    exact w_iret K hr0 X wC_fstx hsz dX7_leg_53
  have h0 := if_f c5 h0
  by_cases c6 : a2 = 2
  · have h0 := if_t c6 h0
    refine lv_tableIn (off := 40) (tgt := 54) hx hb dX7_leg_14 (by rw [c6]; decide) (by rw [c6]; decide) (by rw [c6]; decide) (by decide) ?_
    refine lv_aload_n hx hb dX7_leg_54 rfl (lv_at hl 0 rfl) ?_
    refine g_legi K X (by decide) hj3 rfl 2 (by decide) q140 dX7_leg_55 ?_
    have h0 := Option.some.inj h0
    subst h0
    subst hQ
    exact w_iret K hr0 X wC_fstx hsz dX7_leg_58
  have h0 := if_f c6 h0
  by_cases c7 : a2 = 3
  · have h0 := if_t c7 h0
    refine lv_tableIn (off := 45) (tgt := 59) hx hb dX7_leg_14 (by rw [c7]; decide) (by rw [c7]; decide) (by rw [c7]; decide) (by decide) ?_
    refine lv_aload_n hx hb dX7_leg_59 rfl (lv_at hl 0 rfl) ?_
    refine g_legl K X (by decide) hj3 rfl 6 (by decide) q151 dX7_leg_60 ?_
    refine lv_l2i hx hb dX7_leg_63 rfl ?_
    have h0 := Option.some.inj h0
    subst h0
    subst hQ
    exact w_iret K hr0 X wC_fstx hsz dX7_leg_64
  have h0 := if_f c7 h0
  refine lv_tableOut (tgt := 65) hx hb dX7_leg_14 (by have gc4 := lv_neT (a := 0) c4 (by decide); have gc5 := lv_neT (a := 1) c5 (by decide); have gc6 := lv_neT (a := 2) c6 (by decide); have gc7 := lv_neT (a := 3) c7 (by decide); omega) (by decide) ?_
  cases h0
-- X7_account
def f_X7_account (n : Nat) (P : RowsS) (G : GlbS) (a1 : Int32) (a2 : Int32) : Option Int64 :=
  ob (f_X7_requireLeg a1) fun x1 =>
  lt (f_X3_legAt (P 0) a1) fun x2 =>
  lt (x2) fun j3 =>
  ob (f_X3_volumesAt n (P 0) a1 ((P 0).2 (j3 + 2) 6)) fun x4 =>
  if a2 = 0 then
    some ((P 0).2 (j3 + 2) 3)
  else if a2 = 1 then
    some x4
  else if a2 = 2 then
    some ((P 0).2 (j3 + 2) 4)
  else if a2 = 3 then
    some ((P 0).2 (j3 + 2) 5)
  else if a2 = 4 then
    some ((((P 0).2 (j3 + 2) 3) - ((((P 0).1 (j3 + 2) 1).toInt64) * ((P 0).2 (j3 + 2) 6))) - x4)
  else none
abbrev rm_X7_account : Room := { frames := 3, cells := 0, slots := 0, locals := 89 }
set_option maxRecDepth 100000 in
set_option maxHeartbeats 4000000 in
theorem m_X7_account (l : Launch) (D : va_G) (ca : Nat → ClassId) (ar : Nat → Nat → Nat) (ag : Nat → Nat) (z : ZG) (n : Nat) (P : RowsS) (G : GlbS) (xs : va_W) (a1 : Int32) (a2 : Int32) (res : Int64) (h0 : f_X7_account n P G a1 a2 = some res) (sz : Nat) : Met l yX7_account (ws_ yX7_account cX7_account 6 (some .long)) rm_X7_account (PCz z D ca (wC ar ag ca P G ++ xs) sz [.ref (ag 0), .int a1, .int a2]) (QMw D (wC ar ag ca P G ++ xs) (wC ar ag ca P G ++ xs) sz (some (.long res))) 0 0 (AL (wC ar ag ca P G ++ xs) sz) := by
  refine met_z (by decide +kernel) (Nat.le_of_ble_eq_true rfl) (fun p e s m args below meth c K hr0 hZ X hsz ls hl => ?_)
  have K : MC D ca p s m args meth c cX7_account 6 RX7 := K
  have hx := K.1
  have hb := K.2.1
  have hl : lv_has ls 6 [(0, .ref (ag 0)), (1, .int a1), (2, .int a2)] := hl
  generalize hQ : MQ below _ args s 0 0 _ = Q
  unfold f_X7_account at h0
  suffices Z : ∀ (H : Heap) (locs : List Loc) (X : RW D (wC ar ag ca P G ++ xs) s.heap H locs), W p l e rm_X7_account s m args below meth c H locs 0 0 Q (F0 m 0 ls []) from Z _ _ X
  intro H locs X
  refine lv_iload_n hx hb dX7_account_0 rfl (lv_at hl 1 rfl) ?_
  obtain ⟨x1, ex1, h0⟩ := ob_out h0
  have kx1 := m_X7_requireLeg l D ca z (wC ar ag ca P G ++ xs) a1  ex1 H.size
  refine z_callS K hZ X wC_fstx wC_fstx kx1 hl.1 1 q864 q865 q87 q866 hs_X7_requireLeg ⟨⟨Nat.le_of_ble_eq_true rfl, Nat.le_of_ble_eq_true rfl⟩, rfl, rfl⟩ rfl rfl (Nat.le_of_ble_eq_true rfl) dX7_account_1 ⟨Nat.le_of_ble_eq_true rfl, Nat.le_of_ble_eq_true rfl⟩ rfl (fun H locs X => ?_)
  refine lv_aload_n hx hb dX7_account_4 rfl (lv_at hl 0 rfl) ?_
  refine g_objr K X 0 (by decide) rfl q361 dX7_account_5 ?_
  refine lv_iload_n hx hb dX7_account_8 rfl (lv_at hl 1 rfl) ?_
  obtain ⟨x2, ex2, h0⟩ := lt_out h0
  have kx2 := mC_X3_legAt l D ca ar ag P 0 G xs (by decide) a1 x2 ex2.symm H.size
  refine w_callV0 K X wC_fstx kx2 hl.1 1 q868 q416 q417 q88 q418 hv_X3_legAt ⟨⟨Nat.le_of_ble_eq_true rfl, Nat.le_of_ble_eq_true rfl⟩, rfl, rfl⟩ (pl_rowo (by decide)) rfl rfl rfl rfl (Nat.le_of_ble_eq_true rfl) dX7_account_9 ⟨Nat.le_of_ble_eq_true rfl, Nat.le_of_ble_eq_true rfl⟩ rfl (fun H locs X => ?_)
  obtain ⟨j3, ej3, h0⟩ := lt_out h0
  rw [← ej3]
  have hj3 : j3 < 2 := by rw [ej3]; exact lt_X3_legAt ex2
  refine lv_astore_n (lv' := [(3, .ref (ar 0 (j3 + 2))), (0, .ref (ag 0)), (1, .int a1), (2, .int a2)]) hx hb dX7_account_12 rfl hl (by decide) rfl (fun ls hl => ?_)
  refine lv_aload_n hx hb dX7_account_13 rfl (lv_at hl 1 rfl) ?_
  refine g_objr K X 0 (by decide) rfl q361 dX7_account_14 ?_
  refine lv_iload_n hx hb dX7_account_17 rfl (lv_at hl 2 rfl) ?_
  refine lv_aload_n hx hb dX7_account_18 rfl (lv_at hl 0 rfl) ?_
  refine g_legl K X (by decide) hj3 rfl 6 (by decide) q151 dX7_account_19 ?_
  obtain ⟨x4, ex4, h0⟩ := ob_out h0
  have kx4 := mC_X3_volumesAt l D ca ar ag n P 0 G xs (by decide) a1 ((P 0).2 (j3 + 2) 6) x4 ex4 H.size
  refine w_callV0 K X wC_fstx kx4 hl.1 2 q877 q792 q793 q88 q794 hv_X3_volumesAt ⟨⟨Nat.le_of_ble_eq_true rfl, Nat.le_of_ble_eq_true rfl⟩, rfl, rfl⟩ (pl_rowo (by decide)) rfl rfl rfl rfl (Nat.le_of_ble_eq_true rfl) dX7_account_22 ⟨Nat.le_of_ble_eq_true rfl, Nat.le_of_ble_eq_true rfl⟩ rfl (fun H locs X => ?_)
  refine lv_lstore (lv' := [(4, .long x4), (3, .ref (ar 0 (j3 + 2))), (0, .ref (ag 0)), (1, .int a1), (2, .int a2)]) hx hb dX7_account_25 hl (by decide) rfl (fun ls hl => ?_)
  refine lv_iload_n hx hb dX7_account_27 rfl (lv_at hl 4 rfl) ?_
  by_cases c5 : a2 = 0
  · have h0 := if_t c5 h0
    refine lv_tableIn (off := 36) (tgt := 64) hx hb dX7_account_28 (by rw [c5]; decide) (by rw [c5]; decide) (by rw [c5]; decide) (by decide) ?_
    refine lv_aload_n hx hb dX7_account_64 rfl (lv_at hl 1 rfl) ?_
    refine g_legl K X (by decide) hj3 rfl 3 (by decide) q143 dX7_account_65 ?_
    have h0 := Option.some.inj h0
    subst h0
    subst hQ
    exact w_lret K hr0 X wC_fstx hsz dX7_account_68
  have h0 := if_f c5 h0
  by_cases c6 : a2 = 1
  · have h0 := if_t c6 h0
    refine lv_tableIn (off := 41) (tgt := 69) hx hb dX7_account_28 (by rw [c6]; decide) (by rw [c6]; decide) (by rw [c6]; decide) (by decide) ?_
    refine lv_lload hx hb dX7_account_69 (lv_at hl 0 rfl) ?_
    have h0 := Option.some.inj h0
    subst h0
    subst hQ
    exact w_lret K hr0 X wC_fstx hsz dX7_account_71
  have h0 := if_f c6 h0
  by_cases c7 : a2 = 2
  · have h0 := if_t c7 h0
    refine lv_tableIn (off := 44) (tgt := 72) hx hb dX7_account_28 (by rw [c7]; decide) (by rw [c7]; decide) (by rw [c7]; decide) (by decide) ?_
    refine lv_aload_n hx hb dX7_account_72 rfl (lv_at hl 1 rfl) ?_
    refine g_legl K X (by decide) hj3 rfl 4 (by decide) q146 dX7_account_73 ?_
    have h0 := Option.some.inj h0
    subst h0
    subst hQ
    exact w_lret K hr0 X wC_fstx hsz dX7_account_76
  have h0 := if_f c7 h0
  by_cases c8 : a2 = 3
  · have h0 := if_t c8 h0
    refine lv_tableIn (off := 49) (tgt := 77) hx hb dX7_account_28 (by rw [c8]; decide) (by rw [c8]; decide) (by rw [c8]; decide) (by decide) ?_
    refine lv_aload_n hx hb dX7_account_77 rfl (lv_at hl 1 rfl) ?_
    refine g_legl K X (by decide) hj3 rfl 5 (by decide) q149 dX7_account_78 ?_
    have h0 := Option.some.inj h0
    subst h0
    subst hQ
    exact w_lret K hr0 X wC_fstx hsz dX7_account_81
  have h0 := if_f c8 h0
  by_cases c9 : a2 = 4
  · have h0 := if_t c9 h0
    refine lv_tableIn (off := 54) (tgt := 82) hx hb dX7_account_28 (by rw [c9]; decide) (by rw [c9]; decide) (by rw [c9]; decide) (by decide) ?_
    refine lv_aload_n hx hb dX7_account_82 rfl (lv_at hl 1 rfl) ?_
    refine g_legl K X (by decide) hj3 rfl 3 (by decide) q143 dX7_account_83 ?_
    refine lv_aload_n hx hb dX7_account_86 rfl (lv_at hl 1 rfl) ?_
    refine g_legi K X (by decide) hj3 rfl 1 (by decide) q137 dX7_account_87 ?_
    refine lv_i2l hx hb dX7_account_90 rfl ?_
    refine lv_aload_n hx hb dX7_account_91 rfl (lv_at hl 1 rfl) ?_
    refine g_legl K X (by decide) hj3 rfl 6 (by decide) q151 dX7_account_92 ?_
    refine lv_lmul hx hb dX7_account_95 ?_
    refine lv_lsub hx hb dX7_account_96 ?_
    refine lv_lload hx hb dX7_account_97 (lv_at hl 0 rfl) ?_
    refine lv_lsub hx hb dX7_account_99 ?_
    have h0 := Option.some.inj h0
    subst h0
    subst hQ
    exact w_lret K hr0 X wC_fstx hsz dX7_account_100
  have h0 := if_f c9 h0
  refine lv_tableOut (tgt := 101) hx hb dX7_account_28 (by have gc5 := lv_neT (a := 0) c5 (by decide); have gc6 := lv_neT (a := 1) c6 (by decide); have gc7 := lv_neT (a := 2) c7 (by decide); have gc8 := lv_neT (a := 3) c8 (by decide); have gc9 := lv_neT (a := 4) c9 (by decide); omega) (by decide) ?_
  cases h0
-- X7_requireTube
def b_X7_requireTube_15   : Option Unit :=
  none
def f_X7_requireTube (P : RowsS) (G : GlbS) (a1 : Int32) : Option Unit :=
  if a1 < 0 then
    b_X7_requireTube_15
  else
    if a1 < ((P 0).1 0 2) then
      some ()
    else
      b_X7_requireTube_15
abbrev rm_X7_requireTube : Room := { frames := 0, cells := 0, slots := 0, locals := 0 }
set_option maxRecDepth 100000 in
set_option maxHeartbeats 4000000 in
theorem m_X7_requireTube (l : Launch) (D : va_G) (ca : Nat → ClassId) (ar : Nat → Nat → Nat) (ag : Nat → Nat) (z : ZG) (P : RowsS) (G : GlbS) (xs : va_W) (a1 : Int32)  (h0 : f_X7_requireTube P G a1 = some ()) (sz : Nat) : Met l yX7_requireTube (ws_ yX7_requireTube cX7_requireTube 2 none) rm_X7_requireTube (PCz z D ca (wC ar ag ca P G ++ xs) sz [.ref (ag 0), .int a1]) (QMw D (wC ar ag ca P G ++ xs) (wC ar ag ca P G ++ xs) sz none) 0 0 (AL (wC ar ag ca P G ++ xs) sz) := by
  refine met_z (by decide +kernel) (Nat.le_of_ble_eq_true rfl) (fun p e s m args below meth c K hr0 hZ X hsz ls hl => ?_)
  have K : MC D ca p s m args meth c cX7_requireTube 2 RX7 := K
  have hx := K.1
  have hb := K.2.1
  have hl : lv_has ls 2 [(0, .ref (ag 0)), (1, .int a1)] := hl
  generalize hQ : MQ below _ args s 0 0 _ = Q
  unfold f_X7_requireTube at h0
  suffices Z : ∀ (H : Heap) (locs : List Loc) (X : RW D (wC ar ag ca P G ++ xs) s.heap H locs), W p l e rm_X7_requireTube s m args below meth c H locs 0 0 Q (F0 m 0 ls []) from Z _ _ X
  intro H locs X
  have J15 : ∀  (H : Heap) (locs : List Loc) (X : RW D (wC ar ag ca P G ++ xs) s.heap H locs) (ls : Array Slot) (hl : lv_has ls 2 []) (h0 : b_X7_requireTube_15 = some ()), W p l e rm_X7_requireTube s m args below meth c H locs 0 0 Q (F0 m 15 ls []) := by
    intro  H locs X ls hl h0
    unfold b_X7_requireTube_15 at h0
    cases h0
  refine lv_iload_n hx hb dX7_requireTube_0 rfl (lv_at hl 1 rfl) ?_
  refine lv_if_lt (tgt := 15) hx hb dX7_requireTube_1 (by decide) (fun c1 => ?_) (fun c1 => ?_)
  · have h0 := if_t c1 h0
    exact J15  H locs X ls (lv_sub hl [] rfl) h0
  · have h0 := if_f c1 h0
    refine lv_iload_n hx hb dX7_requireTube_4 rfl (lv_at hl 1 rfl) ?_
    refine lv_aload_n hx hb dX7_requireTube_5 rfl (lv_at hl 0 rfl) ?_
    refine g_objr K X 0 (by decide) rfl q361 dX7_requireTube_6 ?_
    refine g_rowi K X (by decide) rfl 2 (by decide) q231 dX7_requireTube_9 ?_
    refine lv_icmp_lt (tgt := 26) hx hb dX7_requireTube_12 (by decide) (fun c2 => ?_) (fun c2 => ?_)
    · have h0 := if_t c2 h0
      have h0 := Option.some.inj h0
      subst hQ
      exact w_vret K hr0 X wC_fstx hsz dX7_requireTube_26
    · have h0 := if_f c2 h0
      exact J15  H locs X ls (lv_sub hl [] rfl) h0
-- X7_tube
def b_X7_tube_15   : Option Int32 :=
  none
def f_X7_tube (P : RowsS) (G : GlbS) (a1 : Int32) (a2 : Int32) : Option Int32 :=
  ob (f_X7_requireTube P G a1) fun x1 =>
  if a2 < 0 then
    b_X7_tube_15
  else
    if a2 ≤ 10 then
      lt (f_X3_numberOf (P 0) a1 a2) fun x4 =>
      some x4
    else
      b_X7_tube_15
abbrev rm_X7_tube : Room := { frames := 2, cells := 0, slots := 0, locals := 44 }
set_option maxRecDepth 100000 in
set_option maxHeartbeats 4000000 in
theorem m_X7_tube (l : Launch) (D : va_G) (ca : Nat → ClassId) (ar : Nat → Nat → Nat) (ag : Nat → Nat) (z : ZG) (P : RowsS) (G : GlbS) (xs : va_W) (a1 : Int32) (a2 : Int32) (res : Int32) (h0 : f_X7_tube P G a1 a2 = some res) (sz : Nat) : Met l yX7_tube (ws_ yX7_tube cX7_tube 3 (some .int)) rm_X7_tube (PCz z D ca (wC ar ag ca P G ++ xs) sz [.ref (ag 0), .int a1, .int a2]) (QMw D (wC ar ag ca P G ++ xs) (wC ar ag ca P G ++ xs) sz (some (.int res))) 0 0 (AL (wC ar ag ca P G ++ xs) sz) := by
  refine met_z (by decide +kernel) (Nat.le_of_ble_eq_true rfl) (fun p e s m args below meth c K hr0 hZ X hsz ls hl => ?_)
  have K : MC D ca p s m args meth c cX7_tube 3 RX7 := K
  have hx := K.1
  have hb := K.2.1
  have hl : lv_has ls 3 [(0, .ref (ag 0)), (1, .int a1), (2, .int a2)] := hl
  generalize hQ : MQ below _ args s 0 0 _ = Q
  unfold f_X7_tube at h0
  suffices Z : ∀ (H : Heap) (locs : List Loc) (X : RW D (wC ar ag ca P G ++ xs) s.heap H locs), W p l e rm_X7_tube s m args below meth c H locs 0 0 Q (F0 m 0 ls []) from Z _ _ X
  intro H locs X
  have J15 : ∀  (H : Heap) (locs : List Loc) (X : RW D (wC ar ag ca P G ++ xs) s.heap H locs) (ls : Array Slot) (hl : lv_has ls 3 []) (h0 : b_X7_tube_15 = some res), W p l e rm_X7_tube s m args below meth c H locs 0 0 Q (F0 m 15 ls []) := by
    intro  H locs X ls hl h0
    unfold b_X7_tube_15 at h0
    cases h0
  refine lv_aload_n hx hb dX7_tube_0 rfl (lv_at hl 0 rfl) ?_
  refine lv_iload_n hx hb dX7_tube_1 rfl (lv_at hl 1 rfl) ?_
  obtain ⟨x1, ex1, h0⟩ := ob_out h0
  have kx1 := m_X7_requireTube l D ca ar ag z P G xs a1  ex1 H.size
  refine z_callV K hZ X wC_fstx wC_fstx kx1 hl.1 1 q886 q888 q10 q87 q889 hv_X7_requireTube ⟨⟨Nat.le_of_ble_eq_true rfl, Nat.le_of_ble_eq_true rfl⟩, rfl, rfl⟩ (z_recvw K X (pl_glb (k := 0) (by decide)) rfl rfl) rfl rfl (Nat.le_of_ble_eq_true rfl) dX7_tube_2 ⟨Nat.le_of_ble_eq_true rfl, Nat.le_of_ble_eq_true rfl⟩ rfl (fun H locs X => ?_)
  refine lv_iload_n hx hb dX7_tube_5 rfl (lv_at hl 2 rfl) ?_
  refine lv_if_lt (tgt := 15) hx hb dX7_tube_6 (by decide) (fun c2 => ?_) (fun c2 => ?_)
  · have h0 := if_t c2 h0
    exact J15  H locs X ls (lv_sub hl [] rfl) h0
  · have h0 := if_f c2 h0
    refine lv_iload_n hx hb dX7_tube_9 rfl (lv_at hl 2 rfl) ?_
    refine lv_bipush (v := 10) hx hb dX7_tube_10 (by decide) ?_
    refine lv_icmp_le (tgt := 25) hx hb dX7_tube_12 (by decide) (fun c3 => ?_) (fun c3 => ?_)
    · have h0 := if_t c3 h0
      refine lv_aload_n hx hb dX7_tube_25 rfl (lv_at hl 0 rfl) ?_
      refine g_objr K X 0 (by decide) rfl q361 dX7_tube_26 ?_
      refine lv_iload_n hx hb dX7_tube_29 rfl (lv_at hl 1 rfl) ?_
      refine lv_iload_n hx hb dX7_tube_30 rfl (lv_at hl 2 rfl) ?_
      obtain ⟨x4, ex4, h0⟩ := lt_out h0
      have kx4 := mC_X3_numberOf l D ca ar ag P 0 G xs (by decide) a1 a2 x4 ex4.symm H.size
      refine w_callV0 K X wC_fstx kx4 hl.1 2 q892 q893 q894 q88 q895 hv_X3_numberOf ⟨⟨Nat.le_of_ble_eq_true rfl, Nat.le_of_ble_eq_true rfl⟩, rfl, rfl⟩ (pl_rowo (by decide)) rfl rfl rfl rfl (Nat.le_of_ble_eq_true rfl) dX7_tube_31 ⟨Nat.le_of_ble_eq_true rfl, Nat.le_of_ble_eq_true rfl⟩ rfl (fun H locs X => ?_)
      have h0 := Option.some.inj h0
      subst h0
      subst hQ
      exact w_iret K hr0 X wC_fstx hsz dX7_tube_34
    · have h0 := if_f c3 h0
      exact J15  H locs X ls (lv_sub hl [] rfl) h0
-- X7_told
def f_X7_told (P : RowsS) (G : GlbS) (a1 : Int32) : Option Int32 :=
  ob (f_X7_requireTube P G a1) fun x1 =>
  lt (f_X3_tubeAt (P 0) a1) fun x2 =>
  lt (x2) fun j3 =>
  if ((P 0).1 (j3 + 5) 6) = 0 then
    lt (f_X3_toldBy (P 0) j3) fun x5 =>
    some x5
  else
    some (-1000000000)
abbrev rm_X7_told : Room := { frames := 2, cells := 0, slots := 0, locals := 45 }
set_option maxRecDepth 100000 in
set_option maxHeartbeats 4000000 in
theorem m_X7_told (l : Launch) (D : va_G) (ca : Nat → ClassId) (ar : Nat → Nat → Nat) (ag : Nat → Nat) (z : ZG) (P : RowsS) (G : GlbS) (xs : va_W) (a1 : Int32) (res : Int32) (h0 : f_X7_told P G a1 = some res) (sz : Nat) : Met l yX7_told (ws_ yX7_told cX7_told 3 (some .int)) rm_X7_told (PCz z D ca (wC ar ag ca P G ++ xs) sz [.ref (ag 0), .int a1]) (QMw D (wC ar ag ca P G ++ xs) (wC ar ag ca P G ++ xs) sz (some (.int res))) 0 0 (AL (wC ar ag ca P G ++ xs) sz) := by
  refine met_z (by decide +kernel) (Nat.le_of_ble_eq_true rfl) (fun p e s m args below meth c K hr0 hZ X hsz ls hl => ?_)
  have K : MC D ca p s m args meth c cX7_told 3 RX7 := K
  have hx := K.1
  have hb := K.2.1
  have hl : lv_has ls 3 [(0, .ref (ag 0)), (1, .int a1)] := hl
  generalize hQ : MQ below _ args s 0 0 _ = Q
  unfold f_X7_told at h0
  suffices Z : ∀ (H : Heap) (locs : List Loc) (X : RW D (wC ar ag ca P G ++ xs) s.heap H locs), W p l e rm_X7_told s m args below meth c H locs 0 0 Q (F0 m 0 ls []) from Z _ _ X
  intro H locs X
  refine lv_aload_n hx hb dX7_told_0 rfl (lv_at hl 0 rfl) ?_
  refine lv_iload_n hx hb dX7_told_1 rfl (lv_at hl 1 rfl) ?_
  obtain ⟨x1, ex1, h0⟩ := ob_out h0
  have kx1 := m_X7_requireTube l D ca ar ag z P G xs a1  ex1 H.size
  refine z_callV K hZ X wC_fstx wC_fstx kx1 hl.1 1 q886 q888 q10 q87 q889 hv_X7_requireTube ⟨⟨Nat.le_of_ble_eq_true rfl, Nat.le_of_ble_eq_true rfl⟩, rfl, rfl⟩ (z_recvw K X (pl_glb (k := 0) (by decide)) rfl rfl) rfl rfl (Nat.le_of_ble_eq_true rfl) dX7_told_2 ⟨Nat.le_of_ble_eq_true rfl, Nat.le_of_ble_eq_true rfl⟩ rfl (fun H locs X => ?_)
  refine lv_aload_n hx hb dX7_told_5 rfl (lv_at hl 0 rfl) ?_
  refine g_objr K X 0 (by decide) rfl q361 dX7_told_6 ?_
  refine lv_iload_n hx hb dX7_told_9 rfl (lv_at hl 1 rfl) ?_
  obtain ⟨x2, ex2, h0⟩ := lt_out h0
  have kx2 := mC_X3_tubeAt l D ca ar ag P 0 G xs (by decide) a1 x2 ex2.symm H.size
  refine w_callV0 K X wC_fstx kx2 hl.1 1 q403 q404 q405 q88 q406 hv_X3_tubeAt ⟨⟨Nat.le_of_ble_eq_true rfl, Nat.le_of_ble_eq_true rfl⟩, rfl, rfl⟩ (pl_rowo (by decide)) rfl rfl rfl rfl (Nat.le_of_ble_eq_true rfl) dX7_told_10 ⟨Nat.le_of_ble_eq_true rfl, Nat.le_of_ble_eq_true rfl⟩ rfl (fun H locs X => ?_)
  obtain ⟨j3, ej3, h0⟩ := lt_out h0
  rw [← ej3]
  have hj3 : j3 < 13 := by rw [ej3]; exact lt_X3_tubeAt ex2
  refine lv_astore_n (lv' := [(2, .ref (ar 0 (j3 + 5))), (0, .ref (ag 0)), (1, .int a1)]) hx hb dX7_told_13 rfl hl (by decide) rfl (fun ls hl => ?_)
  refine lv_aload_n hx hb dX7_told_14 rfl (lv_at hl 0 rfl) ?_
  refine g_tube K X (by decide) hj3 rfl 6 (by decide) q194 dX7_told_15 ?_
  refine lv_if_ne (tgt := 32) hx hb dX7_told_18 (by decide) (fun c4 => ?_) (fun c4 => ?_)
  · have h0 := if_f c4 h0
    refine lv_ldc hx hb K.2.2.2.1 (K.2.2.2.2.1 _ q905) dX7_told_32 ?_
    have h0 := Option.some.inj h0
    subst h0
    subst hQ
    exact w_iret K hr0 X wC_fstx hsz dX7_told_34
  · have h0 := if_t c4 h0
    refine lv_aload_n hx hb dX7_told_21 rfl (lv_at hl 1 rfl) ?_
    refine g_objr K X 0 (by decide) rfl q361 dX7_told_22 ?_
    refine lv_aload_n hx hb dX7_told_25 rfl (lv_at hl 0 rfl) ?_
    obtain ⟨x5, ex5, h0⟩ := lt_out h0
    have kx5 := mC_X3_toldBy l D ca ar ag P 0 G xs (by decide) j3 hj3 x5 ex5.symm H.size
    refine w_callV0 K X wC_fstx kx5 hl.1 1 q904 q412 q413 q88 q414 hv_X3_toldBy ⟨⟨Nat.le_of_ble_eq_true rfl, Nat.le_of_ble_eq_true rfl⟩, rfl, rfl⟩ (pl_rowo (by decide)) rfl rfl rfl rfl (Nat.le_of_ble_eq_true rfl) dX7_told_26 ⟨Nat.le_of_ble_eq_true rfl, Nat.le_of_ble_eq_true rfl⟩ rfl (fun H locs X => ?_)
    refine lv_goto (tgt := 34) hx hb dX7_told_29 (by decide) ?_
    have h0 := Option.some.inj h0
    subst h0
    subst hQ
    exact w_iret K hr0 X wC_fstx hsz dX7_told_34
-- X7_off
def f_X7_off (P : RowsS) (G : GlbS) (a1 : Int32) : Option Int32 :=
  ob (f_X7_requireTube P G a1) fun x1 =>
  lt (f_X3_tubeAt (P 0) a1) fun x2 =>
  lt (x2) fun j3 =>
  if ((P 0).1 (j3 + 5) 6) = 0 then
    lt (f_X3_wrongBy (P 0) j3) fun x5 =>
    some x5
  else
    some (-1000000000)
abbrev rm_X7_off : Room := { frames := 3, cells := 0, slots := 0, locals := 66 }
set_option maxRecDepth 100000 in
set_option maxHeartbeats 4000000 in
theorem m_X7_off (l : Launch) (D : va_G) (ca : Nat → ClassId) (ar : Nat → Nat → Nat) (ag : Nat → Nat) (z : ZG) (P : RowsS) (G : GlbS) (xs : va_W) (a1 : Int32) (res : Int32) (h0 : f_X7_off P G a1 = some res) (sz : Nat) : Met l yX7_off (ws_ yX7_off cX7_off 3 (some .int)) rm_X7_off (PCz z D ca (wC ar ag ca P G ++ xs) sz [.ref (ag 0), .int a1]) (QMw D (wC ar ag ca P G ++ xs) (wC ar ag ca P G ++ xs) sz (some (.int res))) 0 0 (AL (wC ar ag ca P G ++ xs) sz) := by
  refine met_z (by decide +kernel) (Nat.le_of_ble_eq_true rfl) (fun p e s m args below meth c K hr0 hZ X hsz ls hl => ?_)
  have K : MC D ca p s m args meth c cX7_off 3 RX7 := K
  have hx := K.1
  have hb := K.2.1
  have hl : lv_has ls 3 [(0, .ref (ag 0)), (1, .int a1)] := hl
  generalize hQ : MQ below _ args s 0 0 _ = Q
  unfold f_X7_off at h0
  suffices Z : ∀ (H : Heap) (locs : List Loc) (X : RW D (wC ar ag ca P G ++ xs) s.heap H locs), W p l e rm_X7_off s m args below meth c H locs 0 0 Q (F0 m 0 ls []) from Z _ _ X
  intro H locs X
  refine lv_aload_n hx hb dX7_off_0 rfl (lv_at hl 0 rfl) ?_
  refine lv_iload_n hx hb dX7_off_1 rfl (lv_at hl 1 rfl) ?_
  obtain ⟨x1, ex1, h0⟩ := ob_out h0
  have kx1 := m_X7_requireTube l D ca ar ag z P G xs a1  ex1 H.size
  refine z_callV K hZ X wC_fstx wC_fstx kx1 hl.1 1 q886 q888 q10 q87 q889 hv_X7_requireTube ⟨⟨Nat.le_of_ble_eq_true rfl, Nat.le_of_ble_eq_true rfl⟩, rfl, rfl⟩ (z_recvw K X (pl_glb (k := 0) (by decide)) rfl rfl) rfl rfl (Nat.le_of_ble_eq_true rfl) dX7_off_2 ⟨Nat.le_of_ble_eq_true rfl, Nat.le_of_ble_eq_true rfl⟩ rfl (fun H locs X => ?_)
  refine lv_aload_n hx hb dX7_off_5 rfl (lv_at hl 0 rfl) ?_
  refine g_objr K X 0 (by decide) rfl q361 dX7_off_6 ?_
  refine lv_iload_n hx hb dX7_off_9 rfl (lv_at hl 1 rfl) ?_
  obtain ⟨x2, ex2, h0⟩ := lt_out h0
  have kx2 := mC_X3_tubeAt l D ca ar ag P 0 G xs (by decide) a1 x2 ex2.symm H.size
  refine w_callV0 K X wC_fstx kx2 hl.1 1 q403 q404 q405 q88 q406 hv_X3_tubeAt ⟨⟨Nat.le_of_ble_eq_true rfl, Nat.le_of_ble_eq_true rfl⟩, rfl, rfl⟩ (pl_rowo (by decide)) rfl rfl rfl rfl (Nat.le_of_ble_eq_true rfl) dX7_off_10 ⟨Nat.le_of_ble_eq_true rfl, Nat.le_of_ble_eq_true rfl⟩ rfl (fun H locs X => ?_)
  obtain ⟨j3, ej3, h0⟩ := lt_out h0
  rw [← ej3]
  have hj3 : j3 < 13 := by rw [ej3]; exact lt_X3_tubeAt ex2
  refine lv_astore_n (lv' := [(2, .ref (ar 0 (j3 + 5))), (0, .ref (ag 0)), (1, .int a1)]) hx hb dX7_off_13 rfl hl (by decide) rfl (fun ls hl => ?_)
  refine lv_aload_n hx hb dX7_off_14 rfl (lv_at hl 0 rfl) ?_
  refine g_tube K X (by decide) hj3 rfl 6 (by decide) q194 dX7_off_15 ?_
  refine lv_if_ne (tgt := 32) hx hb dX7_off_18 (by decide) (fun c4 => ?_) (fun c4 => ?_)
  · have h0 := if_f c4 h0
    refine lv_ldc hx hb K.2.2.2.1 (K.2.2.2.2.1 _ q905) dX7_off_32 ?_
    have h0 := Option.some.inj h0
    subst h0
    subst hQ
    exact w_iret K hr0 X wC_fstx hsz dX7_off_34
  · have h0 := if_t c4 h0
    refine lv_aload_n hx hb dX7_off_21 rfl (lv_at hl 1 rfl) ?_
    refine g_objr K X 0 (by decide) rfl q361 dX7_off_22 ?_
    refine lv_aload_n hx hb dX7_off_25 rfl (lv_at hl 0 rfl) ?_
    obtain ⟨x5, ex5, h0⟩ := lt_out h0
    have kx5 := mC_X3_wrongBy l D ca ar ag P 0 G xs (by decide) j3 hj3 x5 ex5.symm H.size
    refine w_callV0 K X wC_fstx kx5 hl.1 1 q432 q433 q434 q88 q435 hv_X3_wrongBy ⟨⟨Nat.le_of_ble_eq_true rfl, Nat.le_of_ble_eq_true rfl⟩, rfl, rfl⟩ (pl_rowo (by decide)) rfl rfl rfl rfl (Nat.le_of_ble_eq_true rfl) dX7_off_26 ⟨Nat.le_of_ble_eq_true rfl, Nat.le_of_ble_eq_true rfl⟩ rfl (fun H locs X => ?_)
    refine lv_goto (tgt := 34) hx hb dX7_off_29 (by decide) ?_
    have h0 := Option.some.inj h0
    subst h0
    subst hQ
    exact w_iret K hr0 X wC_fstx hsz dX7_off_34
-- X7_difference
def f_X7_difference (P : RowsS) (G : GlbS) (a1 : Int32) (a2 : Int32) : Option Int32 :=
  ob (f_X7_requireTube P G a1) fun x1 =>
  ob (f_X7_requireTube P G a2) fun x2 =>
  lt (f_X3_tubeAt (P 0) a1) fun x3 =>
  lt (x3) fun j4 =>
  lt (f_X3_tubeAt (P 0) a2) fun x5 =>
  lt (x5) fun j6 =>
  if ((P 0).1 (j4 + 5) 6) = 0 then
    if ((P 0).1 (j6 + 5) 6) = 0 then
      lt (f_X3_differenceOf (P 0) j4 j6) fun x9 =>
      some x9
    else
      some (-1000000000)
  else
    some (-1000000000)
abbrev rm_X7_difference : Room := { frames := 3, cells := 0, slots := 0, locals := 69 }
set_option maxRecDepth 100000 in
set_option maxHeartbeats 4000000 in
theorem m_X7_difference (l : Launch) (D : va_G) (ca : Nat → ClassId) (ar : Nat → Nat → Nat) (ag : Nat → Nat) (z : ZG) (P : RowsS) (G : GlbS) (xs : va_W) (a1 : Int32) (a2 : Int32) (res : Int32) (h0 : f_X7_difference P G a1 a2 = some res) (sz : Nat) : Met l yX7_difference (ws_ yX7_difference cX7_difference 5 (some .int)) rm_X7_difference (PCz z D ca (wC ar ag ca P G ++ xs) sz [.ref (ag 0), .int a1, .int a2]) (QMw D (wC ar ag ca P G ++ xs) (wC ar ag ca P G ++ xs) sz (some (.int res))) 0 0 (AL (wC ar ag ca P G ++ xs) sz) := by
  refine met_z (by decide +kernel) (Nat.le_of_ble_eq_true rfl) (fun p e s m args below meth c K hr0 hZ X hsz ls hl => ?_)
  have K : MC D ca p s m args meth c cX7_difference 5 RX7 := K
  have hx := K.1
  have hb := K.2.1
  have hl : lv_has ls 5 [(0, .ref (ag 0)), (1, .int a1), (2, .int a2)] := hl
  generalize hQ : MQ below _ args s 0 0 _ = Q
  unfold f_X7_difference at h0
  suffices Z : ∀ (H : Heap) (locs : List Loc) (X : RW D (wC ar ag ca P G ++ xs) s.heap H locs), W p l e rm_X7_difference s m args below meth c H locs 0 0 Q (F0 m 0 ls []) from Z _ _ X
  intro H locs X
  refine lv_aload_n hx hb dX7_difference_0 rfl (lv_at hl 0 rfl) ?_
  refine lv_iload_n hx hb dX7_difference_1 rfl (lv_at hl 1 rfl) ?_
  obtain ⟨x1, ex1, h0⟩ := ob_out h0
  have kx1 := m_X7_requireTube l D ca ar ag z P G xs a1  ex1 H.size
  refine z_callV K hZ X wC_fstx wC_fstx kx1 hl.1 1 q886 q888 q10 q87 q889 hv_X7_requireTube ⟨⟨Nat.le_of_ble_eq_true rfl, Nat.le_of_ble_eq_true rfl⟩, rfl, rfl⟩ (z_recvw K X (pl_glb (k := 0) (by decide)) rfl rfl) rfl rfl (Nat.le_of_ble_eq_true rfl) dX7_difference_2 ⟨Nat.le_of_ble_eq_true rfl, Nat.le_of_ble_eq_true rfl⟩ rfl (fun H locs X => ?_)
  refine lv_aload_n hx hb dX7_difference_5 rfl (lv_at hl 0 rfl) ?_
  refine lv_iload_n hx hb dX7_difference_6 rfl (lv_at hl 2 rfl) ?_
  obtain ⟨x2, ex2, h0⟩ := ob_out h0
  have kx2 := m_X7_requireTube l D ca ar ag z P G xs a2  ex2 H.size
  refine z_callV K hZ X wC_fstx wC_fstx kx2 hl.1 1 q886 q888 q10 q87 q889 hv_X7_requireTube ⟨⟨Nat.le_of_ble_eq_true rfl, Nat.le_of_ble_eq_true rfl⟩, rfl, rfl⟩ (z_recvw K X (pl_glb (k := 0) (by decide)) rfl rfl) rfl rfl (Nat.le_of_ble_eq_true rfl) dX7_difference_7 ⟨Nat.le_of_ble_eq_true rfl, Nat.le_of_ble_eq_true rfl⟩ rfl (fun H locs X => ?_)
  refine lv_aload_n hx hb dX7_difference_10 rfl (lv_at hl 0 rfl) ?_
  refine g_objr K X 0 (by decide) rfl q361 dX7_difference_11 ?_
  refine lv_iload_n hx hb dX7_difference_14 rfl (lv_at hl 1 rfl) ?_
  obtain ⟨x3, ex3, h0⟩ := lt_out h0
  have kx3 := mC_X3_tubeAt l D ca ar ag P 0 G xs (by decide) a1 x3 ex3.symm H.size
  refine w_callV0 K X wC_fstx kx3 hl.1 1 q403 q404 q405 q88 q406 hv_X3_tubeAt ⟨⟨Nat.le_of_ble_eq_true rfl, Nat.le_of_ble_eq_true rfl⟩, rfl, rfl⟩ (pl_rowo (by decide)) rfl rfl rfl rfl (Nat.le_of_ble_eq_true rfl) dX7_difference_15 ⟨Nat.le_of_ble_eq_true rfl, Nat.le_of_ble_eq_true rfl⟩ rfl (fun H locs X => ?_)
  obtain ⟨j4, ej4, h0⟩ := lt_out h0
  rw [← ej4]
  have hj4 : j4 < 13 := by rw [ej4]; exact lt_X3_tubeAt ex3
  refine lv_astore_n (lv' := [(3, .ref (ar 0 (j4 + 5))), (0, .ref (ag 0)), (1, .int a1), (2, .int a2)]) hx hb dX7_difference_18 rfl hl (by decide) rfl (fun ls hl => ?_)
  refine lv_aload_n hx hb dX7_difference_19 rfl (lv_at hl 1 rfl) ?_
  refine g_objr K X 0 (by decide) rfl q361 dX7_difference_20 ?_
  refine lv_iload_n hx hb dX7_difference_23 rfl (lv_at hl 3 rfl) ?_
  obtain ⟨x5, ex5, h0⟩ := lt_out h0
  have kx5 := mC_X3_tubeAt l D ca ar ag P 0 G xs (by decide) a2 x5 ex5.symm H.size
  refine w_callV0 K X wC_fstx kx5 hl.1 1 q403 q404 q405 q88 q406 hv_X3_tubeAt ⟨⟨Nat.le_of_ble_eq_true rfl, Nat.le_of_ble_eq_true rfl⟩, rfl, rfl⟩ (pl_rowo (by decide)) rfl rfl rfl rfl (Nat.le_of_ble_eq_true rfl) dX7_difference_24 ⟨Nat.le_of_ble_eq_true rfl, Nat.le_of_ble_eq_true rfl⟩ rfl (fun H locs X => ?_)
  obtain ⟨j6, ej6, h0⟩ := lt_out h0
  rw [← ej6]
  have hj6 : j6 < 13 := by rw [ej6]; exact lt_X3_tubeAt ex5
  refine lv_astore (lv' := [(4, .ref (ar 0 (j6 + 5))), (3, .ref (ar 0 (j4 + 5))), (0, .ref (ag 0)), (1, .int a1), (2, .int a2)]) hx hb dX7_difference_27 hl (by decide) rfl (fun ls hl => ?_)
  refine lv_aload_n hx hb dX7_difference_29 rfl (lv_at hl 1 rfl) ?_
  refine g_tube K X (by decide) hj4 rfl 6 (by decide) q194 dX7_difference_30 ?_
  refine lv_if_ne (tgt := 57) hx hb dX7_difference_33 (by decide) (fun c7 => ?_) (fun c7 => ?_)
  · have h0 := if_f c7 h0
    refine lv_ldc hx hb K.2.2.2.1 (K.2.2.2.2.1 _ q905) dX7_difference_57 ?_
    have h0 := Option.some.inj h0
    subst h0
    subst hQ
    exact w_iret K hr0 X wC_fstx hsz dX7_difference_59
  · have h0 := if_t c7 h0
    refine lv_aload hx hb dX7_difference_36 (lv_at hl 0 rfl) ?_
    refine g_tube K X (by decide) hj6 rfl 6 (by decide) q194 dX7_difference_38 ?_
    refine lv_if_ne (tgt := 57) hx hb dX7_difference_41 (by decide) (fun c8 => ?_) (fun c8 => ?_)
    · have h0 := if_f c8 h0
      refine lv_ldc hx hb K.2.2.2.1 (K.2.2.2.2.1 _ q905) dX7_difference_57 ?_
      have h0 := Option.some.inj h0
      subst h0
      subst hQ
      exact w_iret K hr0 X wC_fstx hsz dX7_difference_59
    · have h0 := if_t c8 h0
      refine lv_aload_n hx hb dX7_difference_44 rfl (lv_at hl 2 rfl) ?_
      refine g_objr K X 0 (by decide) rfl q361 dX7_difference_45 ?_
      refine lv_aload_n hx hb dX7_difference_48 rfl (lv_at hl 1 rfl) ?_
      refine lv_aload hx hb dX7_difference_49 (lv_at hl 0 rfl) ?_
      obtain ⟨x9, ex9, h0⟩ := lt_out h0
      have kx9 := mC_X3_differenceOf l D ca ar ag P 0 G xs (by decide) j4 hj4 j6 hj6 x9 ex9.symm H.size
      refine w_callV0 K X wC_fstx kx9 hl.1 2 q407 q408 q409 q88 q410 hv_X3_differenceOf ⟨⟨Nat.le_of_ble_eq_true rfl, Nat.le_of_ble_eq_true rfl⟩, rfl, rfl⟩ (pl_rowo (by decide)) rfl rfl rfl rfl (Nat.le_of_ble_eq_true rfl) dX7_difference_51 ⟨Nat.le_of_ble_eq_true rfl, Nat.le_of_ble_eq_true rfl⟩ rfl (fun H locs X => ?_)
      refine lv_goto (tgt := 59) hx hb dX7_difference_54 (by decide) ?_
      have h0 := Option.some.inj h0
      subst h0
      subst hQ
      exact w_iret K hr0 X wC_fstx hsz dX7_difference_59
-- X7_ring
def b_X7_ring_83 (P : RowsS) (y83_l1 : Int32) (y83_l2 : Int32) (y83_l3 : Int32) : Option Int32 :=
  if y83_l1 = y83_l2 then
    some 0
  else
    lt (f_X3_tubeAt (P 0) y83_l2) fun x3 =>
    lt (x3) fun j4 =>
    lt (f_X3_tubeAt (P 0) y83_l1) fun x5 =>
    lt (x5) fun j6 =>
    lt (f_X3_differenceOf (P 0) j4 j6) fun x7 =>
    some (y83_l3 + x7)
def b_X7_ring_77  (y77_l1 : Int32) (y77_l2 : Int32) (y77_l3 : Int32) (y77_l4 : Int32) : Option ((Int32 × Int32 × Int32 × Int32) ⊕ (Int32 × Int32 × Int32)) :=
  lt (y77_l4 + 1) fun x11 =>
  some (.inl (y77_l1, y77_l2, y77_l3, x11))
def b_X7_ring_74  (y74_l1 : Int32) (y74_l3 : Int32) (y74_l4 : Int32) : Option ((Int32 × Int32 × Int32 × Int32) ⊕ (Int32 × Int32 × Int32)) :=
  b_X7_ring_77 y74_l1 y74_l4 y74_l3 y74_l4
def l_X7_ring_9 (P : RowsS) (z9_1 : Int32) (z9_2 : Int32) (z9_3 : Int32) (z9_4 : Int32) : Option ((Int32 × Int32 × Int32 × Int32) ⊕ (Int32 × Int32 × Int32)) :=
  if ((P 0).1 0 2) ≤ z9_4 then
    some (.inr (z9_1, z9_2, z9_3))
  else
    lt (f_X3_tubeAt (P 0) z9_4) fun x8 =>
    lt (x8) fun j9 =>
    if ((P 0).1 (j9 + 5) 6) = 0 then
      if z9_2 = (-1) then
        b_X7_ring_74 z9_4 z9_3 z9_4
      else
        lt (f_X3_tubeAt (P 0) z9_2) fun x13 =>
        lt (x13) fun j14 =>
        lt (f_X3_tubeAt (P 0) z9_4) fun x15 =>
        lt (x15) fun j16 =>
        lt (f_X3_differenceOf (P 0) j14 j16) fun x17 =>
        lt (z9_3 + x17) fun x18 =>
        b_X7_ring_74 z9_1 x18 z9_4
    else
      b_X7_ring_77 z9_1 z9_2 z9_3 z9_4
def f_X7_ring (n : Nat) (P : RowsS) (G : GlbS) : Option Int32 :=
  ob (wloop (fun t => l_X7_ring_9 P t.1 t.2.1 t.2.2.1 t.2.2.2) n ((-1), (-1), 0, 0)) (fun t => b_X7_ring_83 P t.1 t.2.1 t.2.2)
abbrev rm_X7_ring : Room := { frames := 3, cells := 0, slots := 0, locals := 69 }
set_option maxRecDepth 100000 in
set_option maxHeartbeats 4000000 in
theorem m_X7_ring (l : Launch) (D : va_G) (ca : Nat → ClassId) (ar : Nat → Nat → Nat) (ag : Nat → Nat) (n : Nat) (P : RowsS) (G : GlbS) (xs : va_W) (res : Int32) (h0 : f_X7_ring n P G = some res) (sz : Nat) : Met l yX7_ring (ws_ yX7_ring cX7_ring 5 (some .int)) rm_X7_ring (PCw D ca (wC ar ag ca P G ++ xs) sz [.ref (ag 0)]) (QMw D (wC ar ag ca P G ++ xs) (wC ar ag ca P G ++ xs) sz (some (.int res))) 0 0 (AL (wC ar ag ca P G ++ xs) sz) := by
  refine met_of (by decide) (Nat.le_of_ble_eq_true rfl) (fun p e s m args below meth c K hr0 X hsz ls hl => ?_)
  have K : MC D ca p s m args meth c cX7_ring 5 RX7 := K
  have hx := K.1
  have hb := K.2.1
  have hl : lv_has ls 5 [(0, .ref (ag 0))] := hl
  generalize hQ : MQ below _ args s 0 0 _ = Q
  unfold f_X7_ring at h0
  suffices Z : ∀ (H : Heap) (locs : List Loc) (X : RW D (wC ar ag ca P G ++ xs) s.heap H locs), W p l e rm_X7_ring s m args below meth c H locs 0 0 Q (F0 m 0 ls []) from Z _ _ X
  intro H locs X
  have J83 : ∀ (y83_l1 : Int32) (y83_l2 : Int32) (y83_l3 : Int32) (H : Heap) (locs : List Loc) (X : RW D (wC ar ag ca P G ++ xs) s.heap H locs) (ls : Array Slot) (hl : lv_has ls 5 [(0, .ref (ag 0)), (1, .int y83_l1), (2, .int y83_l2), (3, .int y83_l3)]) (h0 : b_X7_ring_83 P y83_l1 y83_l2 y83_l3 = some res), W p l e rm_X7_ring s m args below meth c H locs 0 0 Q (F0 m 83 ls []) := by
    intro y83_l1 y83_l2 y83_l3 H locs X ls hl h0
    unfold b_X7_ring_83 at h0
    refine lv_iload_n hx hb dX7_ring_83 rfl (lv_at hl 1 rfl) ?_
    refine lv_iload_n hx hb dX7_ring_84 rfl (lv_at hl 2 rfl) ?_
    refine lv_icmp_ne (tgt := 90) hx hb dX7_ring_85 (by decide) (fun c2 => ?_) (fun c2 => ?_)
    · have h0 := if_f c2 h0
      refine lv_iload_n hx hb dX7_ring_90 rfl (lv_at hl 3 rfl) ?_
      refine lv_aload_n hx hb dX7_ring_91 rfl (lv_at hl 0 rfl) ?_
      refine g_objr K X 0 (by decide) rfl q361 dX7_ring_92 ?_
      refine lv_aload_n hx hb dX7_ring_95 rfl (lv_at hl 0 rfl) ?_
      refine g_objr K X 0 (by decide) rfl q361 dX7_ring_96 ?_
      refine lv_iload_n hx hb dX7_ring_99 rfl (lv_at hl 2 rfl) ?_
      obtain ⟨x3, ex3, h0⟩ := lt_out h0
      have kx3 := mC_X3_tubeAt l D ca ar ag P 0 G xs (by decide) y83_l2 x3 ex3.symm H.size
      refine w_callV0 K X wC_fstx kx3 hl.1 1 q403 q404 q405 q88 q406 hv_X3_tubeAt ⟨⟨Nat.le_of_ble_eq_true rfl, Nat.le_of_ble_eq_true rfl⟩, rfl, rfl⟩ (pl_rowo (by decide)) rfl rfl rfl rfl (Nat.le_of_ble_eq_true rfl) dX7_ring_100 ⟨Nat.le_of_ble_eq_true rfl, Nat.le_of_ble_eq_true rfl⟩ rfl (fun H locs X => ?_)
      obtain ⟨j4, ej4, h0⟩ := lt_out h0
      rw [← ej4]
      have hj4 : j4 < 13 := by rw [ej4]; exact lt_X3_tubeAt ex3
      refine lv_aload_n hx hb dX7_ring_103 rfl (lv_at hl 0 rfl) ?_
      refine g_objr K X 0 (by decide) rfl q361 dX7_ring_104 ?_
      refine lv_iload_n hx hb dX7_ring_107 rfl (lv_at hl 1 rfl) ?_
      obtain ⟨x5, ex5, h0⟩ := lt_out h0
      have kx5 := mC_X3_tubeAt l D ca ar ag P 0 G xs (by decide) y83_l1 x5 ex5.symm H.size
      refine w_callV0 K X wC_fstx kx5 hl.1 1 q403 q404 q405 q88 q406 hv_X3_tubeAt ⟨⟨Nat.le_of_ble_eq_true rfl, Nat.le_of_ble_eq_true rfl⟩, rfl, rfl⟩ (pl_rowo (by decide)) rfl rfl rfl rfl (Nat.le_of_ble_eq_true rfl) dX7_ring_108 ⟨Nat.le_of_ble_eq_true rfl, Nat.le_of_ble_eq_true rfl⟩ rfl (fun H locs X => ?_)
      obtain ⟨j6, ej6, h0⟩ := lt_out h0
      rw [← ej6]
      have hj6 : j6 < 13 := by rw [ej6]; exact lt_X3_tubeAt ex5
      obtain ⟨x7, ex7, h0⟩ := lt_out h0
      have kx7 := mC_X3_differenceOf l D ca ar ag P 0 G xs (by decide) j4 hj4 j6 hj6 x7 ex7.symm H.size
      refine w_callV0 K X wC_fstx kx7 hl.1 2 q407 q408 q409 q88 q410 hv_X3_differenceOf ⟨⟨Nat.le_of_ble_eq_true rfl, Nat.le_of_ble_eq_true rfl⟩, rfl, rfl⟩ (pl_rowo (by decide)) rfl rfl rfl rfl (Nat.le_of_ble_eq_true rfl) dX7_ring_111 ⟨Nat.le_of_ble_eq_true rfl, Nat.le_of_ble_eq_true rfl⟩ rfl (fun H locs X => ?_)
      refine lv_iadd hx hb dX7_ring_114 ?_
      have h0 := Option.some.inj h0
      subst h0
      subst hQ
      exact w_iret K hr0 X wC_fstx hsz dX7_ring_115
    · have h0 := if_t c2 h0
      refine lv_iconst (v := 0) hx hb dX7_ring_88 (by decide) ?_
      have h0 := Option.some.inj h0
      subst h0
      subst hQ
      exact w_iret K hr0 X wC_fstx hsz dX7_ring_89
  refine lv_iconst (v := (-1)) hx hb dX7_ring_0 (by decide) ?_
  refine lv_istore_n (lv' := [(1, .int (-1)), (0, .ref (ag 0))]) hx hb dX7_ring_1 rfl hl (by decide) rfl (fun ls hl => ?_)
  refine lv_iconst (v := (-1)) hx hb dX7_ring_2 (by decide) ?_
  refine lv_istore_n (lv' := [(2, .int (-1)), (1, .int (-1)), (0, .ref (ag 0))]) hx hb dX7_ring_3 rfl hl (by decide) rfl (fun ls hl => ?_)
  refine lv_iconst (v := 0) hx hb dX7_ring_4 (by decide) ?_
  refine lv_istore_n (lv' := [(3, .int 0), (2, .int (-1)), (1, .int (-1)), (0, .ref (ag 0))]) hx hb dX7_ring_5 rfl hl (by decide) rfl (fun ls hl => ?_)
  refine lv_iconst (v := 0) hx hb dX7_ring_6 (by decide) ?_
  refine lv_istore (lv' := [(4, .int 0), (3, .int 0), (2, .int (-1)), (1, .int (-1)), (0, .ref (ag 0))]) hx hb dX7_ring_7 hl (by decide) rfl (fun ls hl => ?_)
  obtain ⟨e_1, he1, h0⟩ := ob_out h0
  have K9 : ∀ (k : Nat) (z9_1 : Int32) (z9_2 : Int32) (z9_3 : Int32) (z9_4 : Int32) (H : Heap) (locs : List Loc) (X : RW D (wC ar ag ca P G ++ xs) s.heap H locs) (ls : Array Slot) (hl : lv_has ls 5 [(0, .ref (ag 0)), (1, .int z9_1), (2, .int z9_2), (3, .int z9_3), (4, .int z9_4)]) (hw : wloop (fun t => l_X7_ring_9 P t.1 t.2.1 t.2.2.1 t.2.2.2) k (z9_1, z9_2, z9_3, z9_4) = some e_1), W p l e rm_X7_ring s m args below meth c H locs 0 0 Q (F0 m 9 ls []) := by
    intro k
    induction k with
    | zero => intro z9_1 z9_2 z9_3 z9_4 H locs X ls hl hw; exact (wloop_0 hw).elim
    | succ k ih1 =>
      intro z9_1 z9_2 z9_3 z9_4 H locs X ls hl hw
      obtain ⟨x_1, h1, hx1⟩ := wloop_out hw
      have h1 : l_X7_ring_9 P z9_1 z9_2 z9_3 z9_4 = some x_1 := h1
      unfold l_X7_ring_9 at h1
      have J77 : ∀ (y77_l1 : Int32) (y77_l2 : Int32) (y77_l3 : Int32) (y77_l4 : Int32) (H : Heap) (locs : List Loc) (X : RW D (wC ar ag ca P G ++ xs) s.heap H locs) (ls : Array Slot) (hl : lv_has ls 5 [(0, .ref (ag 0)), (1, .int y77_l1), (2, .int y77_l2), (3, .int y77_l3), (4, .int y77_l4)]) (h1 : b_X7_ring_77 y77_l1 y77_l2 y77_l3 y77_l4 = some x_1), W p l e rm_X7_ring s m args below meth c H locs 0 0 Q (F0 m 77 ls []) := by
        intro y77_l1 y77_l2 y77_l3 y77_l4 H locs X ls hl h1
        unfold b_X7_ring_77 at h1
        obtain ⟨x11, ex11, h1⟩ := lt_out h1
        refine lv_iinc (v := x11) (lv' := [(4, .int x11), (0, .ref (ag 0)), (1, .int y77_l1), (2, .int y77_l2), (3, .int y77_l3)]) hx hb dX7_ring_77 hl (k := 4) rfl (by rw [ex11]; rfl) (by decide) rfl (fun ls hl => ?_)
        refine lv_goto (tgt := 9) hx hb dX7_ring_80 (by decide) ?_
        exact ih1 y77_l1 y77_l2 y77_l3 x11 H locs X ls (lv_sub hl [1, 2, 3, 4, 0] rfl) (wl_l h1 hx1)
      have J74 : ∀ (y74_l1 : Int32) (y74_l3 : Int32) (y74_l4 : Int32) (H : Heap) (locs : List Loc) (X : RW D (wC ar ag ca P G ++ xs) s.heap H locs) (ls : Array Slot) (hl : lv_has ls 5 [(0, .ref (ag 0)), (1, .int y74_l1), (3, .int y74_l3), (4, .int y74_l4)]) (h1 : b_X7_ring_74 y74_l1 y74_l3 y74_l4 = some x_1), W p l e rm_X7_ring s m args below meth c H locs 0 0 Q (F0 m 74 ls []) := by
        intro y74_l1 y74_l3 y74_l4 H locs X ls hl h1
        unfold b_X7_ring_74 at h1
        refine lv_iload hx hb dX7_ring_74 (lv_at hl 3 rfl) ?_
        refine lv_istore_n (lv' := [(2, .int y74_l4), (0, .ref (ag 0)), (1, .int y74_l1), (3, .int y74_l3), (4, .int y74_l4)]) hx hb dX7_ring_76 rfl hl (by decide) rfl (fun ls hl => ?_)
        exact J77 y74_l1 y74_l4 y74_l3 y74_l4 H locs X ls (lv_sub hl [1, 2, 0, 3, 4] rfl) h1
      refine lv_iload hx hb dX7_ring_9 (lv_at hl 4 rfl) ?_
      refine lv_aload_n hx hb dX7_ring_11 rfl (lv_at hl 0 rfl) ?_
      refine g_objr K X 0 (by decide) rfl q361 dX7_ring_12 ?_
      refine g_rowi K X (by decide) rfl 2 (by decide) q231 dX7_ring_15 ?_
      refine lv_icmp_ge (tgt := 83) hx hb dX7_ring_18 (by decide) (fun c1 => ?_) (fun c1 => ?_)
      · have h1 := if_t c1 h1
        have q1 := wl_r h1 hx1
        exact J83 z9_1 z9_2 z9_3 H locs X ls (lv_sub hl [0, 1, 2, 3] rfl) (by rw [q1] at h0; exact h0)
      · have h1 := if_f c1 h1
        refine lv_aload_n hx hb dX7_ring_21 rfl (lv_at hl 0 rfl) ?_
        refine g_objr K X 0 (by decide) rfl q361 dX7_ring_22 ?_
        refine lv_iload hx hb dX7_ring_25 (lv_at hl 4 rfl) ?_
        obtain ⟨x8, ex8, h1⟩ := lt_out h1
        have kx8 := mC_X3_tubeAt l D ca ar ag P 0 G xs (by decide) z9_4 x8 ex8.symm H.size
        refine w_callV0 K X wC_fstx kx8 hl.1 1 q403 q404 q405 q88 q406 hv_X3_tubeAt ⟨⟨Nat.le_of_ble_eq_true rfl, Nat.le_of_ble_eq_true rfl⟩, rfl, rfl⟩ (pl_rowo (by decide)) rfl rfl rfl rfl (Nat.le_of_ble_eq_true rfl) dX7_ring_27 ⟨Nat.le_of_ble_eq_true rfl, Nat.le_of_ble_eq_true rfl⟩ rfl (fun H locs X => ?_)
        obtain ⟨j9, ej9, h1⟩ := lt_out h1
        rw [← ej9]
        have hj9 : j9 < 13 := by rw [ej9]; exact lt_X3_tubeAt ex8
        refine g_tube K X (by decide) hj9 rfl 6 (by decide) q194 dX7_ring_30 ?_
        refine lv_if_ne (tgt := 77) hx hb dX7_ring_33 (by decide) (fun c10 => ?_) (fun c10 => ?_)
        · have h1 := if_f c10 h1
          exact J77 z9_1 z9_2 z9_3 z9_4 H locs X ls (lv_sub hl [0, 1, 2, 3, 4] rfl) h1
        · have h1 := if_t c10 h1
          refine lv_iload_n hx hb dX7_ring_36 rfl (lv_at hl 2 rfl) ?_
          refine lv_iconst (v := (-1)) hx hb dX7_ring_37 (by decide) ?_
          refine lv_icmp_ne (tgt := 47) hx hb dX7_ring_38 (by decide) (fun c12 => ?_) (fun c12 => ?_)
          · have h1 := if_f c12 h1
            refine lv_iload_n hx hb dX7_ring_47 rfl (lv_at hl 3 rfl) ?_
            refine lv_aload_n hx hb dX7_ring_48 rfl (lv_at hl 0 rfl) ?_
            refine g_objr K X 0 (by decide) rfl q361 dX7_ring_49 ?_
            refine lv_aload_n hx hb dX7_ring_52 rfl (lv_at hl 0 rfl) ?_
            refine g_objr K X 0 (by decide) rfl q361 dX7_ring_53 ?_
            refine lv_iload_n hx hb dX7_ring_56 rfl (lv_at hl 2 rfl) ?_
            obtain ⟨x13, ex13, h1⟩ := lt_out h1
            have kx13 := mC_X3_tubeAt l D ca ar ag P 0 G xs (by decide) z9_2 x13 ex13.symm H.size
            refine w_callV0 K X wC_fstx kx13 hl.1 1 q403 q404 q405 q88 q406 hv_X3_tubeAt ⟨⟨Nat.le_of_ble_eq_true rfl, Nat.le_of_ble_eq_true rfl⟩, rfl, rfl⟩ (pl_rowo (by decide)) rfl rfl rfl rfl (Nat.le_of_ble_eq_true rfl) dX7_ring_57 ⟨Nat.le_of_ble_eq_true rfl, Nat.le_of_ble_eq_true rfl⟩ rfl (fun H locs X => ?_)
            obtain ⟨j14, ej14, h1⟩ := lt_out h1
            rw [← ej14]
            have hj14 : j14 < 13 := by rw [ej14]; exact lt_X3_tubeAt ex13
            refine lv_aload_n hx hb dX7_ring_60 rfl (lv_at hl 0 rfl) ?_
            refine g_objr K X 0 (by decide) rfl q361 dX7_ring_61 ?_
            refine lv_iload hx hb dX7_ring_64 (lv_at hl 4 rfl) ?_
            obtain ⟨x15, ex15, h1⟩ := lt_out h1
            have kx15 := mC_X3_tubeAt l D ca ar ag P 0 G xs (by decide) z9_4 x15 ex15.symm H.size
            refine w_callV0 K X wC_fstx kx15 hl.1 1 q403 q404 q405 q88 q406 hv_X3_tubeAt ⟨⟨Nat.le_of_ble_eq_true rfl, Nat.le_of_ble_eq_true rfl⟩, rfl, rfl⟩ (pl_rowo (by decide)) rfl rfl rfl rfl (Nat.le_of_ble_eq_true rfl) dX7_ring_66 ⟨Nat.le_of_ble_eq_true rfl, Nat.le_of_ble_eq_true rfl⟩ rfl (fun H locs X => ?_)
            obtain ⟨j16, ej16, h1⟩ := lt_out h1
            rw [← ej16]
            have hj16 : j16 < 13 := by rw [ej16]; exact lt_X3_tubeAt ex15
            obtain ⟨x17, ex17, h1⟩ := lt_out h1
            have kx17 := mC_X3_differenceOf l D ca ar ag P 0 G xs (by decide) j14 hj14 j16 hj16 x17 ex17.symm H.size
            refine w_callV0 K X wC_fstx kx17 hl.1 2 q407 q408 q409 q88 q410 hv_X3_differenceOf ⟨⟨Nat.le_of_ble_eq_true rfl, Nat.le_of_ble_eq_true rfl⟩, rfl, rfl⟩ (pl_rowo (by decide)) rfl rfl rfl rfl (Nat.le_of_ble_eq_true rfl) dX7_ring_69 ⟨Nat.le_of_ble_eq_true rfl, Nat.le_of_ble_eq_true rfl⟩ rfl (fun H locs X => ?_)
            refine lv_iadd hx hb dX7_ring_72 ?_
            obtain ⟨x18, ex18, h1⟩ := lt_out h1
            refine w_int ex18 ?_
            refine lv_istore_n (lv' := [(3, .int x18), (0, .ref (ag 0)), (1, .int z9_1), (2, .int z9_2), (4, .int z9_4)]) hx hb dX7_ring_73 rfl hl (by decide) rfl (fun ls hl => ?_)
            exact J74 z9_1 x18 z9_4 H locs X ls (lv_sub hl [1, 2, 0, 4] rfl) h1
          · have h1 := if_t c12 h1
            refine lv_iload hx hb dX7_ring_41 (lv_at hl 4 rfl) ?_
            refine lv_istore_n (lv' := [(1, .int z9_4), (0, .ref (ag 0)), (2, .int z9_2), (3, .int z9_3), (4, .int z9_4)]) hx hb dX7_ring_43 rfl hl (by decide) rfl (fun ls hl => ?_)
            refine lv_goto (tgt := 74) hx hb dX7_ring_44 (by decide) ?_
            exact J74 z9_4 z9_3 z9_4 H locs X ls (lv_sub hl [1, 0, 3, 4] rfl) h1
  exact K9 n (-1) (-1) 0 0 H locs X ls (lv_sub hl [4, 3, 2, 1, 0] rfl) he1
-- X7_room
def f_X7_room (P : RowsS) (G : GlbS) (a1 : Int32) : Option Int32 :=
  ob (f_X7_requireTube P G a1) fun x1 =>
  lt (f_X3_tubeAt (P 0) a1) fun x2 =>
  lt (x2) fun j3 =>
  if ((P 0).1 (j3 + 5) 6) = 0 then
    lt (f_X6_fullColumn ((P 0).1 (j3 + 5))) fun x5 =>
    some (x5 - ((P 0).1 (j3 + 5) 9))
  else
    some (-1)
abbrev rm_X7_room : Room := { frames := 1, cells := 0, slots := 0, locals := 21 }
set_option maxRecDepth 100000 in
set_option maxHeartbeats 4000000 in
theorem m_X7_room (l : Launch) (D : va_G) (ca : Nat → ClassId) (ar : Nat → Nat → Nat) (ag : Nat → Nat) (z : ZG) (P : RowsS) (G : GlbS) (xs : va_W) (a1 : Int32) (res : Int32) (h0 : f_X7_room P G a1 = some res) (sz : Nat) : Met l yX7_room (ws_ yX7_room cX7_room 3 (some .int)) rm_X7_room (PCz z D ca (wC ar ag ca P G ++ xs) sz [.ref (ag 0), .int a1]) (QMw D (wC ar ag ca P G ++ xs) (wC ar ag ca P G ++ xs) sz (some (.int res))) 0 0 (AL (wC ar ag ca P G ++ xs) sz) := by
  refine met_z (by decide +kernel) (Nat.le_of_ble_eq_true rfl) (fun p e s m args below meth c K hr0 hZ X hsz ls hl => ?_)
  have K : MC D ca p s m args meth c cX7_room 3 RX7 := K
  have hx := K.1
  have hb := K.2.1
  have hl : lv_has ls 3 [(0, .ref (ag 0)), (1, .int a1)] := hl
  generalize hQ : MQ below _ args s 0 0 _ = Q
  unfold f_X7_room at h0
  suffices Z : ∀ (H : Heap) (locs : List Loc) (X : RW D (wC ar ag ca P G ++ xs) s.heap H locs), W p l e rm_X7_room s m args below meth c H locs 0 0 Q (F0 m 0 ls []) from Z _ _ X
  intro H locs X
  refine lv_aload_n hx hb dX7_room_0 rfl (lv_at hl 0 rfl) ?_
  refine lv_iload_n hx hb dX7_room_1 rfl (lv_at hl 1 rfl) ?_
  obtain ⟨x1, ex1, h0⟩ := ob_out h0
  have kx1 := m_X7_requireTube l D ca ar ag z P G xs a1  ex1 H.size
  refine z_callV K hZ X wC_fstx wC_fstx kx1 hl.1 1 q886 q888 q10 q87 q889 hv_X7_requireTube ⟨⟨Nat.le_of_ble_eq_true rfl, Nat.le_of_ble_eq_true rfl⟩, rfl, rfl⟩ (z_recvw K X (pl_glb (k := 0) (by decide)) rfl rfl) rfl rfl (Nat.le_of_ble_eq_true rfl) dX7_room_2 ⟨Nat.le_of_ble_eq_true rfl, Nat.le_of_ble_eq_true rfl⟩ rfl (fun H locs X => ?_)
  refine lv_aload_n hx hb dX7_room_5 rfl (lv_at hl 0 rfl) ?_
  refine g_objr K X 0 (by decide) rfl q361 dX7_room_6 ?_
  refine lv_iload_n hx hb dX7_room_9 rfl (lv_at hl 1 rfl) ?_
  obtain ⟨x2, ex2, h0⟩ := lt_out h0
  have kx2 := mC_X3_tubeAt l D ca ar ag P 0 G xs (by decide) a1 x2 ex2.symm H.size
  refine w_callV0 K X wC_fstx kx2 hl.1 1 q403 q404 q405 q88 q406 hv_X3_tubeAt ⟨⟨Nat.le_of_ble_eq_true rfl, Nat.le_of_ble_eq_true rfl⟩, rfl, rfl⟩ (pl_rowo (by decide)) rfl rfl rfl rfl (Nat.le_of_ble_eq_true rfl) dX7_room_10 ⟨Nat.le_of_ble_eq_true rfl, Nat.le_of_ble_eq_true rfl⟩ rfl (fun H locs X => ?_)
  obtain ⟨j3, ej3, h0⟩ := lt_out h0
  rw [← ej3]
  have hj3 : j3 < 13 := by rw [ej3]; exact lt_X3_tubeAt ex2
  refine lv_astore_n (lv' := [(2, .ref (ar 0 (j3 + 5))), (0, .ref (ag 0)), (1, .int a1)]) hx hb dX7_room_13 rfl hl (by decide) rfl (fun ls hl => ?_)
  refine lv_aload_n hx hb dX7_room_14 rfl (lv_at hl 0 rfl) ?_
  refine g_tube K X (by decide) hj3 rfl 6 (by decide) q194 dX7_room_15 ?_
  refine lv_if_ne (tgt := 33) hx hb dX7_room_18 (by decide) (fun c4 => ?_) (fun c4 => ?_)
  · have h0 := if_f c4 h0
    refine lv_iconst (v := (-1)) hx hb dX7_room_33 (by decide) ?_
    have h0 := Option.some.inj h0
    subst h0
    subst hQ
    exact w_iret K hr0 X wC_fstx hsz dX7_room_34
  · have h0 := if_t c4 h0
    refine lv_aload_n hx hb dX7_room_21 rfl (lv_at hl 0 rfl) ?_
    obtain ⟨x5, ex5, h0⟩ := lt_out h0
    have kx5 := mC_X6_fullColumn l D ca ar ag P 0 j3 G xs (by decide) hj3 x5 ex5.symm H.size
    refine w_callV0 K X wC_fstx kx5 hl.1 0 q927 q784 q785 q90 q786 hv_X6_fullColumn ⟨⟨Nat.le_of_ble_eq_true rfl, Nat.le_of_ble_eq_true rfl⟩, rfl, rfl⟩ (pl_tube (by decide) hj3) rfl rfl rfl rfl (Nat.le_of_ble_eq_true rfl) dX7_room_22 ⟨Nat.le_of_ble_eq_true rfl, Nat.le_of_ble_eq_true rfl⟩ rfl (fun H locs X => ?_)
    refine lv_aload_n hx hb dX7_room_25 rfl (lv_at hl 0 rfl) ?_
    refine g_tube K X (by decide) hj3 rfl 9 (by decide) q202 dX7_room_26 ?_
    refine lv_isub hx hb dX7_room_29 ?_
    refine lv_goto (tgt := 34) hx hb dX7_room_30 (by decide) ?_
    have h0 := Option.some.inj h0
    subst h0
    subst hQ
    exact w_iret K hr0 X wC_fstx hsz dX7_room_34
-- X7_longest
def b_X7_longest_58  (y58_l1 : Int32) : Option Int32 :=
  some y58_l1
def b_X7_longest_52  (y52_l1 : Int32) (y52_l2 : Int32) (y52_l3 : Int32) : Option ((Int32 × Int32 × Int32) ⊕ Int32) :=
  lt (y52_l3 + 1) fun x5 =>
  some (.inl (y52_l1, y52_l2, x5))
def l_X7_longest_6 (P : RowsS) (z6_1 : Int32) (z6_2 : Int32) (z6_3 : Int32) : Option ((Int32 × Int32 × Int32) ⊕ Int32) :=
  if ((P 0).1 0 2) ≤ z6_3 then
    some (.inr z6_1)
  else
    lt (f_X3_tubeAt (P 0) z6_3) fun x2 =>
    lt (x2) fun j3 =>
    if ((P 0).1 (j3 + 5) 6) = 0 then
      if ((P 0).1 (j3 + 5) 9) ≤ z6_2 then
        b_X7_longest_52 z6_1 z6_2 z6_3
      else
        lt ((P 0).1 (j3 + 5) 9) fun x7 =>
        b_X7_longest_52 z6_3 x7 z6_3
    else
      b_X7_longest_52 z6_1 z6_2 z6_3
def f_X7_longest (n : Nat) (P : RowsS) (G : GlbS) : Option Int32 :=
  ob (wloop (fun t => l_X7_longest_6 P t.1 t.2.1 t.2.2) n ((-1), (-1), 0)) (fun t => b_X7_longest_58 t)
abbrev rm_X7_longest : Room := { frames := 1, cells := 0, slots := 0, locals := 21 }
set_option maxRecDepth 100000 in
set_option maxHeartbeats 4000000 in
theorem m_X7_longest (l : Launch) (D : va_G) (ca : Nat → ClassId) (ar : Nat → Nat → Nat) (ag : Nat → Nat) (n : Nat) (P : RowsS) (G : GlbS) (xs : va_W) (res : Int32) (h0 : f_X7_longest n P G = some res) (sz : Nat) : Met l yX7_longest (ws_ yX7_longest cX7_longest 5 (some .int)) rm_X7_longest (PCw D ca (wC ar ag ca P G ++ xs) sz [.ref (ag 0)]) (QMw D (wC ar ag ca P G ++ xs) (wC ar ag ca P G ++ xs) sz (some (.int res))) 0 0 (AL (wC ar ag ca P G ++ xs) sz) := by
  refine met_of (by decide) (Nat.le_of_ble_eq_true rfl) (fun p e s m args below meth c K hr0 X hsz ls hl => ?_)
  have K : MC D ca p s m args meth c cX7_longest 5 RX7 := K
  have hx := K.1
  have hb := K.2.1
  have hl : lv_has ls 5 [(0, .ref (ag 0))] := hl
  generalize hQ : MQ below _ args s 0 0 _ = Q
  unfold f_X7_longest at h0
  suffices Z : ∀ (H : Heap) (locs : List Loc) (X : RW D (wC ar ag ca P G ++ xs) s.heap H locs), W p l e rm_X7_longest s m args below meth c H locs 0 0 Q (F0 m 0 ls []) from Z _ _ X
  intro H locs X
  have J58 : ∀ (y58_l1 : Int32) (H : Heap) (locs : List Loc) (X : RW D (wC ar ag ca P G ++ xs) s.heap H locs) (ls : Array Slot) (hl : lv_has ls 5 [(1, .int y58_l1)]) (h0 : b_X7_longest_58 y58_l1 = some res), W p l e rm_X7_longest s m args below meth c H locs 0 0 Q (F0 m 58 ls []) := by
    intro y58_l1 H locs X ls hl h0
    unfold b_X7_longest_58 at h0
    refine lv_iload_n hx hb dX7_longest_58 rfl (lv_at hl 0 rfl) ?_
    have h0 := Option.some.inj h0
    subst h0
    subst hQ
    exact w_iret K hr0 X wC_fstx hsz dX7_longest_59
  refine lv_iconst (v := (-1)) hx hb dX7_longest_0 (by decide) ?_
  refine lv_istore_n (lv' := [(1, .int (-1)), (0, .ref (ag 0))]) hx hb dX7_longest_1 rfl hl (by decide) rfl (fun ls hl => ?_)
  refine lv_iconst (v := (-1)) hx hb dX7_longest_2 (by decide) ?_
  refine lv_istore_n (lv' := [(2, .int (-1)), (1, .int (-1)), (0, .ref (ag 0))]) hx hb dX7_longest_3 rfl hl (by decide) rfl (fun ls hl => ?_)
  refine lv_iconst (v := 0) hx hb dX7_longest_4 (by decide) ?_
  refine lv_istore_n (lv' := [(3, .int 0), (2, .int (-1)), (1, .int (-1)), (0, .ref (ag 0))]) hx hb dX7_longest_5 rfl hl (by decide) rfl (fun ls hl => ?_)
  obtain ⟨e_1, he1, h0⟩ := ob_out h0
  have K6 : ∀ (k : Nat) (z6_1 : Int32) (z6_2 : Int32) (z6_3 : Int32) (H : Heap) (locs : List Loc) (X : RW D (wC ar ag ca P G ++ xs) s.heap H locs) (ls : Array Slot) (hl : lv_has ls 5 [(0, .ref (ag 0)), (1, .int z6_1), (2, .int z6_2), (3, .int z6_3)]) (hw : wloop (fun t => l_X7_longest_6 P t.1 t.2.1 t.2.2) k (z6_1, z6_2, z6_3) = some e_1), W p l e rm_X7_longest s m args below meth c H locs 0 0 Q (F0 m 6 ls []) := by
    intro k
    induction k with
    | zero => intro z6_1 z6_2 z6_3 H locs X ls hl hw; exact (wloop_0 hw).elim
    | succ k ih1 =>
      intro z6_1 z6_2 z6_3 H locs X ls hl hw
      obtain ⟨x_1, h1, hx1⟩ := wloop_out hw
      have h1 : l_X7_longest_6 P z6_1 z6_2 z6_3 = some x_1 := h1
      unfold l_X7_longest_6 at h1
      have J52 : ∀ (y52_l1 : Int32) (y52_l2 : Int32) (y52_l3 : Int32) (H : Heap) (locs : List Loc) (X : RW D (wC ar ag ca P G ++ xs) s.heap H locs) (ls : Array Slot) (hl : lv_has ls 5 [(0, .ref (ag 0)), (1, .int y52_l1), (2, .int y52_l2), (3, .int y52_l3)]) (h1 : b_X7_longest_52 y52_l1 y52_l2 y52_l3 = some x_1), W p l e rm_X7_longest s m args below meth c H locs 0 0 Q (F0 m 52 ls []) := by
        intro y52_l1 y52_l2 y52_l3 H locs X ls hl h1
        unfold b_X7_longest_52 at h1
        obtain ⟨x5, ex5, h1⟩ := lt_out h1
        refine lv_iinc (v := x5) (lv' := [(3, .int x5), (0, .ref (ag 0)), (1, .int y52_l1), (2, .int y52_l2)]) hx hb dX7_longest_52 hl (k := 3) rfl (by rw [ex5]; rfl) (by decide) rfl (fun ls hl => ?_)
        refine lv_goto (tgt := 6) hx hb dX7_longest_55 (by decide) ?_
        exact ih1 y52_l1 y52_l2 x5 H locs X ls (lv_sub hl [1, 2, 3, 0] rfl) (wl_l h1 hx1)
      refine lv_iload_n hx hb dX7_longest_6 rfl (lv_at hl 3 rfl) ?_
      refine lv_aload_n hx hb dX7_longest_7 rfl (lv_at hl 0 rfl) ?_
      refine g_objr K X 0 (by decide) rfl q361 dX7_longest_8 ?_
      refine g_rowi K X (by decide) rfl 2 (by decide) q231 dX7_longest_11 ?_
      refine lv_icmp_ge (tgt := 58) hx hb dX7_longest_14 (by decide) (fun c1 => ?_) (fun c1 => ?_)
      · have h1 := if_t c1 h1
        have q1 := wl_r h1 hx1
        exact J58 z6_1 H locs X ls (lv_sub hl [1] rfl) (by rw [q1] at h0; exact h0)
      · have h1 := if_f c1 h1
        refine lv_aload_n hx hb dX7_longest_17 rfl (lv_at hl 0 rfl) ?_
        refine g_objr K X 0 (by decide) rfl q361 dX7_longest_18 ?_
        refine lv_iload_n hx hb dX7_longest_21 rfl (lv_at hl 3 rfl) ?_
        obtain ⟨x2, ex2, h1⟩ := lt_out h1
        have kx2 := mC_X3_tubeAt l D ca ar ag P 0 G xs (by decide) z6_3 x2 ex2.symm H.size
        refine w_callV0 K X wC_fstx kx2 hl.1 1 q403 q404 q405 q88 q406 hv_X3_tubeAt ⟨⟨Nat.le_of_ble_eq_true rfl, Nat.le_of_ble_eq_true rfl⟩, rfl, rfl⟩ (pl_rowo (by decide)) rfl rfl rfl rfl (Nat.le_of_ble_eq_true rfl) dX7_longest_22 ⟨Nat.le_of_ble_eq_true rfl, Nat.le_of_ble_eq_true rfl⟩ rfl (fun H locs X => ?_)
        obtain ⟨j3, ej3, h1⟩ := lt_out h1
        rw [← ej3]
        have hj3 : j3 < 13 := by rw [ej3]; exact lt_X3_tubeAt ex2
        refine lv_astore (lv' := [(4, .ref (ar 0 (j3 + 5))), (0, .ref (ag 0)), (1, .int z6_1), (2, .int z6_2), (3, .int z6_3)]) hx hb dX7_longest_25 hl (by decide) rfl (fun ls hl => ?_)
        refine lv_aload hx hb dX7_longest_27 (lv_at hl 0 rfl) ?_
        refine g_tube K X (by decide) hj3 rfl 6 (by decide) q194 dX7_longest_29 ?_
        refine lv_if_ne (tgt := 52) hx hb dX7_longest_32 (by decide) (fun c4 => ?_) (fun c4 => ?_)
        · have h1 := if_f c4 h1
          exact J52 z6_1 z6_2 z6_3 H locs X ls (lv_sub hl [1, 2, 3, 4] rfl) h1
        · have h1 := if_t c4 h1
          refine lv_aload hx hb dX7_longest_35 (lv_at hl 0 rfl) ?_
          refine g_tube K X (by decide) hj3 rfl 9 (by decide) q202 dX7_longest_37 ?_
          refine lv_iload_n hx hb dX7_longest_40 rfl (lv_at hl 3 rfl) ?_
          refine lv_icmp_le (tgt := 52) hx hb dX7_longest_41 (by decide) (fun c6 => ?_) (fun c6 => ?_)
          · have h1 := if_t c6 h1
            exact J52 z6_1 z6_2 z6_3 H locs X ls (lv_sub hl [1, 2, 3, 4] rfl) h1
          · have h1 := if_f c6 h1
            refine lv_iload_n hx hb dX7_longest_44 rfl (lv_at hl 4 rfl) ?_
            refine lv_istore_n (lv' := [(1, .int z6_3), (4, .ref (ar 0 (j3 + 5))), (0, .ref (ag 0)), (2, .int z6_2), (3, .int z6_3)]) hx hb dX7_longest_45 rfl hl (by decide) rfl (fun ls hl => ?_)
            refine lv_aload hx hb dX7_longest_46 (lv_at hl 1 rfl) ?_
            refine g_tube K X (by decide) hj3 rfl 9 (by decide) q202 dX7_longest_48 ?_
            obtain ⟨x7, ex7, h1⟩ := lt_out h1
            refine w_int ex7 ?_
            refine lv_istore_n (lv' := [(2, .int x7), (1, .int z6_3), (4, .ref (ar 0 (j3 + 5))), (0, .ref (ag 0)), (3, .int z6_3)]) hx hb dX7_longest_51 rfl hl (by decide) rfl (fun ls hl => ?_)
            exact J52 z6_3 x7 z6_3 H locs X ls (lv_sub hl [3, 1, 0, 4] rfl) h1
  exact K6 n (-1) (-1) 0 H locs X ls (lv_sub hl [3, 2, 1, 0] rfl) he1
-- X7_worst
def b_X7_worst_72  (y72_l1 : Int32) : Option Int32 :=
  some y72_l1
def b_X7_worst_66  (y66_l1 : Int32) (y66_l2 : Int32) (y66_l3 : Int32) : Option ((Int32 × Int32 × Int32) ⊕ Int32) :=
  lt (y66_l3 + 1) fun x5 =>
  some (.inl (y66_l1, y66_l2, x5))
def l_X7_worst_6 (P : RowsS) (z6_1 : Int32) (z6_2 : Int32) (z6_3 : Int32) : Option ((Int32 × Int32 × Int32) ⊕ Int32) :=
  if ((P 0).1 0 2) ≤ z6_3 then
    some (.inr z6_1)
  else
    lt (f_X3_tubeAt (P 0) z6_3) fun x2 =>
    lt (x2) fun j3 =>
    if ((P 0).1 (j3 + 5) 6) = 0 then
      lt (f_X3_wrongBy (P 0) j3) fun x6 =>
      if (jabs x6) ≤ z6_2 then
        b_X7_worst_66 z6_1 z6_2 z6_3
      else
        lt (f_X3_wrongBy (P 0) j3) fun x8 =>
        lt (jabs x8) fun x9 =>
        b_X7_worst_66 z6_3 x9 z6_3
    else
      b_X7_worst_66 z6_1 z6_2 z6_3
def f_X7_worst (n : Nat) (P : RowsS) (G : GlbS) : Option Int32 :=
  ob (wloop (fun t => l_X7_worst_6 P t.1 t.2.1 t.2.2) n ((-1), (-1), 0)) (fun t => b_X7_worst_72 t)
abbrev rm_X7_worst : Room := { frames := 3, cells := 0, slots := 0, locals := 66 }
set_option maxRecDepth 100000 in
set_option maxHeartbeats 4000000 in
theorem m_X7_worst (l : Launch) (D : va_G) (ca : Nat → ClassId) (ar : Nat → Nat → Nat) (ag : Nat → Nat) (n : Nat) (P : RowsS) (G : GlbS) (xs : va_W) (res : Int32) (h0 : f_X7_worst n P G = some res) (sz : Nat) : Met l yX7_worst (ws_ yX7_worst cX7_worst 5 (some .int)) rm_X7_worst (PCw D ca (wC ar ag ca P G ++ xs) sz [.ref (ag 0)]) (QMw D (wC ar ag ca P G ++ xs) (wC ar ag ca P G ++ xs) sz (some (.int res))) 0 0 (AL (wC ar ag ca P G ++ xs) sz) := by
  refine met_of (by decide) (Nat.le_of_ble_eq_true rfl) (fun p e s m args below meth c K hr0 X hsz ls hl => ?_)
  have K : MC D ca p s m args meth c cX7_worst 5 RX7 := K
  have hx := K.1
  have hb := K.2.1
  have hl : lv_has ls 5 [(0, .ref (ag 0))] := hl
  generalize hQ : MQ below _ args s 0 0 _ = Q
  unfold f_X7_worst at h0
  suffices Z : ∀ (H : Heap) (locs : List Loc) (X : RW D (wC ar ag ca P G ++ xs) s.heap H locs), W p l e rm_X7_worst s m args below meth c H locs 0 0 Q (F0 m 0 ls []) from Z _ _ X
  intro H locs X
  have J72 : ∀ (y72_l1 : Int32) (H : Heap) (locs : List Loc) (X : RW D (wC ar ag ca P G ++ xs) s.heap H locs) (ls : Array Slot) (hl : lv_has ls 5 [(1, .int y72_l1)]) (h0 : b_X7_worst_72 y72_l1 = some res), W p l e rm_X7_worst s m args below meth c H locs 0 0 Q (F0 m 72 ls []) := by
    intro y72_l1 H locs X ls hl h0
    unfold b_X7_worst_72 at h0
    refine lv_iload_n hx hb dX7_worst_72 rfl (lv_at hl 0 rfl) ?_
    have h0 := Option.some.inj h0
    subst h0
    subst hQ
    exact w_iret K hr0 X wC_fstx hsz dX7_worst_73
  refine lv_iconst (v := (-1)) hx hb dX7_worst_0 (by decide) ?_
  refine lv_istore_n (lv' := [(1, .int (-1)), (0, .ref (ag 0))]) hx hb dX7_worst_1 rfl hl (by decide) rfl (fun ls hl => ?_)
  refine lv_iconst (v := (-1)) hx hb dX7_worst_2 (by decide) ?_
  refine lv_istore_n (lv' := [(2, .int (-1)), (1, .int (-1)), (0, .ref (ag 0))]) hx hb dX7_worst_3 rfl hl (by decide) rfl (fun ls hl => ?_)
  refine lv_iconst (v := 0) hx hb dX7_worst_4 (by decide) ?_
  refine lv_istore_n (lv' := [(3, .int 0), (2, .int (-1)), (1, .int (-1)), (0, .ref (ag 0))]) hx hb dX7_worst_5 rfl hl (by decide) rfl (fun ls hl => ?_)
  obtain ⟨e_1, he1, h0⟩ := ob_out h0
  have K6 : ∀ (k : Nat) (z6_1 : Int32) (z6_2 : Int32) (z6_3 : Int32) (H : Heap) (locs : List Loc) (X : RW D (wC ar ag ca P G ++ xs) s.heap H locs) (ls : Array Slot) (hl : lv_has ls 5 [(0, .ref (ag 0)), (1, .int z6_1), (2, .int z6_2), (3, .int z6_3)]) (hw : wloop (fun t => l_X7_worst_6 P t.1 t.2.1 t.2.2) k (z6_1, z6_2, z6_3) = some e_1), W p l e rm_X7_worst s m args below meth c H locs 0 0 Q (F0 m 6 ls []) := by
    intro k
    induction k with
    | zero => intro z6_1 z6_2 z6_3 H locs X ls hl hw; exact (wloop_0 hw).elim
    | succ k ih1 =>
      intro z6_1 z6_2 z6_3 H locs X ls hl hw
      obtain ⟨x_1, h1, hx1⟩ := wloop_out hw
      have h1 : l_X7_worst_6 P z6_1 z6_2 z6_3 = some x_1 := h1
      unfold l_X7_worst_6 at h1
      have J66 : ∀ (y66_l1 : Int32) (y66_l2 : Int32) (y66_l3 : Int32) (H : Heap) (locs : List Loc) (X : RW D (wC ar ag ca P G ++ xs) s.heap H locs) (ls : Array Slot) (hl : lv_has ls 5 [(0, .ref (ag 0)), (1, .int y66_l1), (2, .int y66_l2), (3, .int y66_l3)]) (h1 : b_X7_worst_66 y66_l1 y66_l2 y66_l3 = some x_1), W p l e rm_X7_worst s m args below meth c H locs 0 0 Q (F0 m 66 ls []) := by
        intro y66_l1 y66_l2 y66_l3 H locs X ls hl h1
        unfold b_X7_worst_66 at h1
        obtain ⟨x5, ex5, h1⟩ := lt_out h1
        refine lv_iinc (v := x5) (lv' := [(3, .int x5), (0, .ref (ag 0)), (1, .int y66_l1), (2, .int y66_l2)]) hx hb dX7_worst_66 hl (k := 3) rfl (by rw [ex5]; rfl) (by decide) rfl (fun ls hl => ?_)
        refine lv_goto (tgt := 6) hx hb dX7_worst_69 (by decide) ?_
        exact ih1 y66_l1 y66_l2 x5 H locs X ls (lv_sub hl [1, 2, 3, 0] rfl) (wl_l h1 hx1)
      refine lv_iload_n hx hb dX7_worst_6 rfl (lv_at hl 3 rfl) ?_
      refine lv_aload_n hx hb dX7_worst_7 rfl (lv_at hl 0 rfl) ?_
      refine g_objr K X 0 (by decide) rfl q361 dX7_worst_8 ?_
      refine g_rowi K X (by decide) rfl 2 (by decide) q231 dX7_worst_11 ?_
      refine lv_icmp_ge (tgt := 72) hx hb dX7_worst_14 (by decide) (fun c1 => ?_) (fun c1 => ?_)
      · have h1 := if_t c1 h1
        have q1 := wl_r h1 hx1
        exact J72 z6_1 H locs X ls (lv_sub hl [1] rfl) (by rw [q1] at h0; exact h0)
      · have h1 := if_f c1 h1
        refine lv_aload_n hx hb dX7_worst_17 rfl (lv_at hl 0 rfl) ?_
        refine g_objr K X 0 (by decide) rfl q361 dX7_worst_18 ?_
        refine lv_iload_n hx hb dX7_worst_21 rfl (lv_at hl 3 rfl) ?_
        obtain ⟨x2, ex2, h1⟩ := lt_out h1
        have kx2 := mC_X3_tubeAt l D ca ar ag P 0 G xs (by decide) z6_3 x2 ex2.symm H.size
        refine w_callV0 K X wC_fstx kx2 hl.1 1 q403 q404 q405 q88 q406 hv_X3_tubeAt ⟨⟨Nat.le_of_ble_eq_true rfl, Nat.le_of_ble_eq_true rfl⟩, rfl, rfl⟩ (pl_rowo (by decide)) rfl rfl rfl rfl (Nat.le_of_ble_eq_true rfl) dX7_worst_22 ⟨Nat.le_of_ble_eq_true rfl, Nat.le_of_ble_eq_true rfl⟩ rfl (fun H locs X => ?_)
        obtain ⟨j3, ej3, h1⟩ := lt_out h1
        rw [← ej3]
        have hj3 : j3 < 13 := by rw [ej3]; exact lt_X3_tubeAt ex2
        refine lv_astore (lv' := [(4, .ref (ar 0 (j3 + 5))), (0, .ref (ag 0)), (1, .int z6_1), (2, .int z6_2), (3, .int z6_3)]) hx hb dX7_worst_25 hl (by decide) rfl (fun ls hl => ?_)
        refine lv_aload hx hb dX7_worst_27 (lv_at hl 0 rfl) ?_
        refine g_tube K X (by decide) hj3 rfl 6 (by decide) q194 dX7_worst_29 ?_
        refine lv_if_ne (tgt := 66) hx hb dX7_worst_32 (by decide) (fun c4 => ?_) (fun c4 => ?_)
        · have h1 := if_f c4 h1
          exact J66 z6_1 z6_2 z6_3 H locs X ls (lv_sub hl [1, 2, 3, 4] rfl) h1
        · have h1 := if_t c4 h1
          refine lv_aload_n hx hb dX7_worst_35 rfl (lv_at hl 1 rfl) ?_
          refine g_objr K X 0 (by decide) rfl q361 dX7_worst_36 ?_
          refine lv_aload hx hb dX7_worst_39 (lv_at hl 0 rfl) ?_
          obtain ⟨x6, ex6, h1⟩ := lt_out h1
          have kx6 := mC_X3_wrongBy l D ca ar ag P 0 G xs (by decide) j3 hj3 x6 ex6.symm H.size
          refine w_callV0 K X wC_fstx kx6 hl.1 1 q432 q433 q434 q88 q435 hv_X3_wrongBy ⟨⟨Nat.le_of_ble_eq_true rfl, Nat.le_of_ble_eq_true rfl⟩, rfl, rfl⟩ (pl_rowo (by decide)) rfl rfl rfl rfl (Nat.le_of_ble_eq_true rfl) dX7_worst_41 ⟨Nat.le_of_ble_eq_true rfl, Nat.le_of_ble_eq_true rfl⟩ rfl (fun H locs X => ?_)
          refine w_mabs K hl.1 q440 q441 q102 q442 (Nat.le_of_ble_eq_true rfl) (Nat.le_of_ble_eq_true rfl) (Nat.le_of_ble_eq_true rfl) (Nat.le_of_ble_eq_true rfl) dX7_worst_44 ?_
          refine lv_iload_n hx hb dX7_worst_47 rfl (lv_at hl 3 rfl) ?_
          refine lv_icmp_le (tgt := 66) hx hb dX7_worst_48 (by decide) (fun c7 => ?_) (fun c7 => ?_)
          · have h1 := if_t c7 h1
            exact J66 z6_1 z6_2 z6_3 H locs X ls (lv_sub hl [1, 2, 3, 4] rfl) h1
          · have h1 := if_f c7 h1
            refine lv_iload_n hx hb dX7_worst_51 rfl (lv_at hl 4 rfl) ?_
            refine lv_istore_n (lv' := [(1, .int z6_3), (4, .ref (ar 0 (j3 + 5))), (0, .ref (ag 0)), (2, .int z6_2), (3, .int z6_3)]) hx hb dX7_worst_52 rfl hl (by decide) rfl (fun ls hl => ?_)
            refine lv_aload_n hx hb dX7_worst_53 rfl (lv_at hl 2 rfl) ?_
            refine g_objr K X 0 (by decide) rfl q361 dX7_worst_54 ?_
            refine lv_aload hx hb dX7_worst_57 (lv_at hl 1 rfl) ?_
            obtain ⟨x8, ex8, h1⟩ := lt_out h1
            have kx8 := mC_X3_wrongBy l D ca ar ag P 0 G xs (by decide) j3 hj3 x8 ex8.symm H.size
            refine w_callV0 K X wC_fstx kx8 hl.1 1 q432 q433 q434 q88 q435 hv_X3_wrongBy ⟨⟨Nat.le_of_ble_eq_true rfl, Nat.le_of_ble_eq_true rfl⟩, rfl, rfl⟩ (pl_rowo (by decide)) rfl rfl rfl rfl (Nat.le_of_ble_eq_true rfl) dX7_worst_59 ⟨Nat.le_of_ble_eq_true rfl, Nat.le_of_ble_eq_true rfl⟩ rfl (fun H locs X => ?_)
            refine w_mabs K hl.1 q440 q441 q102 q442 (Nat.le_of_ble_eq_true rfl) (Nat.le_of_ble_eq_true rfl) (Nat.le_of_ble_eq_true rfl) (Nat.le_of_ble_eq_true rfl) dX7_worst_62 ?_
            obtain ⟨x9, ex9, h1⟩ := lt_out h1
            refine w_int ex9 ?_
            refine lv_istore_n (lv' := [(2, .int x9), (1, .int z6_3), (4, .ref (ar 0 (j3 + 5))), (0, .ref (ag 0)), (3, .int z6_3)]) hx hb dX7_worst_65 rfl hl (by decide) rfl (fun ls hl => ?_)
            exact J66 z6_3 x9 z6_3 H locs X ls (lv_sub hl [3, 1, 0, 4] rfl) h1
  exact K6 n (-1) (-1) 0 H locs X ls (lv_sub hl [3, 2, 1, 0] rfl) he1
-- X7_agree
def b_X7_agree_118 (a2 : Int32) (y118_l4 : Int32) (y118_l5 : Int32) : Option Bool :=
  if a2 < (y118_l5 - y118_l4) then
    some false
  else
    some true
def b_X7_agree_112  (y112_l3 : Int32) (y112_l4 : Int32) (y112_l5 : Int32) (y112_l6 : Int32) : Option ((Int32 × Int32 × Int32 × Int32) ⊕ (Int32 × Int32)) :=
  lt (y112_l6 + 1) fun x8 =>
  some (.inl (y112_l3, y112_l4, y112_l5, x8))
def b_X7_agree_108  (y108_l4 : Int32) (y108_l6 : Int32) (y108_s0 : Int32) : Option ((Int32 × Int32 × Int32 × Int32) ⊕ (Int32 × Int32)) :=
  b_X7_agree_112 1 y108_l4 y108_s0 y108_l6
def b_X7_agree_90  (y90_l3 : Int32) (y90_l5 : Int32) (y90_l6 : Int32) (y90_l8 : Int32) (y90_s0 : Int32) : Option ((Int32 × Int32 × Int32 × Int32) ⊕ (Int32 × Int32)) :=
  if y90_l3 = 0 then
    b_X7_agree_108 y90_s0 y90_l6 y90_l8
  else
    b_X7_agree_108 y90_s0 y90_l6 (jmax y90_l5 y90_l8)
def l_X7_agree_23 (P : RowsS) (a1 : Int32) (z23_3 : Int32) (z23_4 : Int32) (z23_5 : Int32) (z23_6 : Int32) : Option ((Int32 × Int32 × Int32 × Int32) ⊕ (Int32 × Int32)) :=
  if ((P 0).1 0 2) ≤ z23_6 then
    some (.inr (z23_4, z23_5))
  else
    lt (f_X3_tubeAt (P 0) z23_6) fun x5 =>
    lt (x5) fun j6 =>
    if ((P 0).1 (j6 + 5) 6) = 0 then
      if ((P 0).1 (j6 + 5) 1) = a1 then
        lt (f_X3_toldBy (P 0) j6) fun x10 =>
        if z23_3 = 0 then
          b_X7_agree_90 z23_3 z23_5 z23_6 x10 x10
        else
          b_X7_agree_90 z23_3 z23_5 z23_6 x10 (jmin z23_4 x10)
      else
        b_X7_agree_112 z23_3 z23_4 z23_5 z23_6
    else
      b_X7_agree_112 z23_3 z23_4 z23_5 z23_6
def f_X7_agree (n : Nat) (P : RowsS) (G : GlbS) (a1 : Int32) (a2 : Int32) : Option Bool :=
  ob (f_X7_requirePoint P G a1) fun x1 =>
  ob (f_X7_requireWithin a2 0 99999) fun x2 =>
  ob (wloop (fun t => l_X7_agree_23 P a1 t.1 t.2.1 t.2.2.1 t.2.2.2) n (0, 0, 0, 0)) (fun t => b_X7_agree_118 a2 t.1 t.2)
abbrev rm_X7_agree : Room := { frames := 2, cells := 0, slots := 0, locals := 45 }
set_option maxRecDepth 100000 in
set_option maxHeartbeats 4000000 in
theorem m_X7_agree (l : Launch) (D : va_G) (ca : Nat → ClassId) (ar : Nat → Nat → Nat) (ag : Nat → Nat) (z : ZG) (n : Nat) (P : RowsS) (G : GlbS) (xs : va_W) (a1 : Int32) (a2 : Int32) (res : Bool) (h0 : f_X7_agree n P G a1 a2 = some res) (sz : Nat) : Met l yX7_agree (ws_ yX7_agree cX7_agree 9 (some .boolean)) rm_X7_agree (PCz z D ca (wC ar ag ca P G ++ xs) sz [.ref (ag 0), .int a1, .int a2]) (QMw D (wC ar ag ca P G ++ xs) (wC ar ag ca P G ++ xs) sz (some (.int (b2i res)))) 0 0 (AL (wC ar ag ca P G ++ xs) sz) := by
  refine met_z (by decide +kernel) (Nat.le_of_ble_eq_true rfl) (fun p e s m args below meth c K hr0 hZ X hsz ls hl => ?_)
  have K : MC D ca p s m args meth c cX7_agree 9 RX7 := K
  have hx := K.1
  have hb := K.2.1
  have hl : lv_has ls 9 [(0, .ref (ag 0)), (1, .int a1), (2, .int a2)] := hl
  generalize hQ : MQ below _ args s 0 0 _ = Q
  unfold f_X7_agree at h0
  suffices Z : ∀ (H : Heap) (locs : List Loc) (X : RW D (wC ar ag ca P G ++ xs) s.heap H locs), W p l e rm_X7_agree s m args below meth c H locs 0 0 Q (F0 m 0 ls []) from Z _ _ X
  intro H locs X
  have J118 : ∀ (y118_l4 : Int32) (y118_l5 : Int32) (H : Heap) (locs : List Loc) (X : RW D (wC ar ag ca P G ++ xs) s.heap H locs) (ls : Array Slot) (hl : lv_has ls 9 [(2, .int a2), (4, .int y118_l4), (5, .int y118_l5)]) (h0 : b_X7_agree_118 a2 y118_l4 y118_l5 = some res), W p l e rm_X7_agree s m args below meth c H locs 0 0 Q (F0 m 118 ls []) := by
    intro y118_l4 y118_l5 H locs X ls hl h0
    unfold b_X7_agree_118 at h0
    refine lv_iload hx hb dX7_agree_118 (lv_at hl 2 rfl) ?_
    refine lv_iload hx hb dX7_agree_120 (lv_at hl 1 rfl) ?_
    refine lv_isub hx hb dX7_agree_122 ?_
    refine lv_iload_n hx hb dX7_agree_123 rfl (lv_at hl 0 rfl) ?_
    refine lv_icmp_gt (tgt := 131) hx hb dX7_agree_124 (by decide) (fun c4 => ?_) (fun c4 => ?_)
    · have h0 := if_t c4 h0
      refine lv_iconst (v := 0) hx hb dX7_agree_131 (by decide) ?_
      have h0 := Option.some.inj h0
      subst h0
      subst hQ
      refine w_int (y := b2i false) (by decide) ?_
      exact w_zret K hr0 X wC_fstx hsz (b2i_nar _) dX7_agree_132
    · have h0 := if_f c4 h0
      refine lv_iconst (v := 1) hx hb dX7_agree_127 (by decide) ?_
      refine lv_goto (tgt := 132) hx hb dX7_agree_128 (by decide) ?_
      have h0 := Option.some.inj h0
      subst h0
      subst hQ
      refine w_int (y := b2i true) (by decide) ?_
      exact w_zret K hr0 X wC_fstx hsz (b2i_nar _) dX7_agree_132
  refine lv_aload_n hx hb dX7_agree_0 rfl (lv_at hl 0 rfl) ?_
  refine lv_iload_n hx hb dX7_agree_1 rfl (lv_at hl 1 rfl) ?_
  obtain ⟨x1, ex1, h0⟩ := ob_out h0
  have kx1 := m_X7_requirePoint l D ca ar ag z P G xs a1  ex1 H.size
  refine z_callV K hZ X wC_fstx wC_fstx kx1 hl.1 1 q851 q853 q9 q87 q854 hv_X7_requirePoint ⟨⟨Nat.le_of_ble_eq_true rfl, Nat.le_of_ble_eq_true rfl⟩, rfl, rfl⟩ (z_recvw K X (pl_glb (k := 0) (by decide)) rfl rfl) rfl rfl (Nat.le_of_ble_eq_true rfl) dX7_agree_2 ⟨Nat.le_of_ble_eq_true rfl, Nat.le_of_ble_eq_true rfl⟩ rfl (fun H locs X => ?_)
  refine lv_iload_n hx hb dX7_agree_5 rfl (lv_at hl 2 rfl) ?_
  refine lv_iconst (v := 0) hx hb dX7_agree_6 (by decide) ?_
  refine lv_ldc hx hb K.2.2.2.1 (K.2.2.2.2.1 _ q935) dX7_agree_7 ?_
  obtain ⟨x2, ex2, h0⟩ := ob_out h0
  have kx2 := m_X7_requireWithin l D ca z (wC ar ag ca P G ++ xs) a2 0 99999  ex2 H.size
  refine z_callS K hZ X wC_fstx wC_fstx kx2 hl.1 3 q557 q558 q87 q559 hs_X7_requireWithin ⟨⟨Nat.le_of_ble_eq_true rfl, Nat.le_of_ble_eq_true rfl⟩, rfl, rfl⟩ rfl rfl (Nat.le_of_ble_eq_true rfl) dX7_agree_9 ⟨Nat.le_of_ble_eq_true rfl, Nat.le_of_ble_eq_true rfl⟩ rfl (fun H locs X => ?_)
  refine lv_iconst (v := 0) hx hb dX7_agree_12 (by decide) ?_
  refine lv_istore_n (lv' := [(3, .int 0), (0, .ref (ag 0)), (1, .int a1), (2, .int a2)]) hx hb dX7_agree_13 rfl hl (by decide) rfl (fun ls hl => ?_)
  refine lv_iconst (v := 0) hx hb dX7_agree_14 (by decide) ?_
  refine lv_istore (lv' := [(4, .int 0), (3, .int 0), (0, .ref (ag 0)), (1, .int a1), (2, .int a2)]) hx hb dX7_agree_15 hl (by decide) rfl (fun ls hl => ?_)
  refine lv_iconst (v := 0) hx hb dX7_agree_17 (by decide) ?_
  refine lv_istore (lv' := [(5, .int 0), (4, .int 0), (3, .int 0), (0, .ref (ag 0)), (1, .int a1), (2, .int a2)]) hx hb dX7_agree_18 hl (by decide) rfl (fun ls hl => ?_)
  refine lv_iconst (v := 0) hx hb dX7_agree_20 (by decide) ?_
  refine lv_istore (lv' := [(6, .int 0), (5, .int 0), (4, .int 0), (3, .int 0), (0, .ref (ag 0)), (1, .int a1), (2, .int a2)]) hx hb dX7_agree_21 hl (by decide) rfl (fun ls hl => ?_)
  obtain ⟨e_1, he1, h0⟩ := ob_out h0
  have K23 : ∀ (k : Nat) (z23_3 : Int32) (z23_4 : Int32) (z23_5 : Int32) (z23_6 : Int32) (H : Heap) (locs : List Loc) (X : RW D (wC ar ag ca P G ++ xs) s.heap H locs) (ls : Array Slot) (hl : lv_has ls 9 [(0, .ref (ag 0)), (1, .int a1), (2, .int a2), (3, .int z23_3), (4, .int z23_4), (5, .int z23_5), (6, .int z23_6)]) (hw : wloop (fun t => l_X7_agree_23 P a1 t.1 t.2.1 t.2.2.1 t.2.2.2) k (z23_3, z23_4, z23_5, z23_6) = some e_1), W p l e rm_X7_agree s m args below meth c H locs 0 0 Q (F0 m 23 ls []) := by
    intro k
    induction k with
    | zero => intro z23_3 z23_4 z23_5 z23_6 H locs X ls hl hw; exact (wloop_0 hw).elim
    | succ k ih1 =>
      intro z23_3 z23_4 z23_5 z23_6 H locs X ls hl hw
      obtain ⟨x_1, h1, hx1⟩ := wloop_out hw
      have h1 : l_X7_agree_23 P a1 z23_3 z23_4 z23_5 z23_6 = some x_1 := h1
      unfold l_X7_agree_23 at h1
      have J112 : ∀ (y112_l3 : Int32) (y112_l4 : Int32) (y112_l5 : Int32) (y112_l6 : Int32) (H : Heap) (locs : List Loc) (X : RW D (wC ar ag ca P G ++ xs) s.heap H locs) (ls : Array Slot) (hl : lv_has ls 9 [(0, .ref (ag 0)), (1, .int a1), (2, .int a2), (3, .int y112_l3), (4, .int y112_l4), (5, .int y112_l5), (6, .int y112_l6)]) (h1 : b_X7_agree_112 y112_l3 y112_l4 y112_l5 y112_l6 = some x_1), W p l e rm_X7_agree s m args below meth c H locs 0 0 Q (F0 m 112 ls []) := by
        intro y112_l3 y112_l4 y112_l5 y112_l6 H locs X ls hl h1
        unfold b_X7_agree_112 at h1
        obtain ⟨x8, ex8, h1⟩ := lt_out h1
        refine lv_iinc (v := x8) (lv' := [(6, .int x8), (0, .ref (ag 0)), (1, .int a1), (2, .int a2), (3, .int y112_l3), (4, .int y112_l4), (5, .int y112_l5)]) hx hb dX7_agree_112 hl (k := 6) rfl (by rw [ex8]; rfl) (by decide) rfl (fun ls hl => ?_)
        refine lv_goto (tgt := 23) hx hb dX7_agree_115 (by decide) ?_
        exact ih1 y112_l3 y112_l4 y112_l5 x8 H locs X ls (lv_sub hl [1, 2, 3, 4, 5, 6, 0] rfl) (wl_l h1 hx1)
      have J108 : ∀ (y108_l4 : Int32) (y108_l6 : Int32) (y108_s0 : Int32) (H : Heap) (locs : List Loc) (X : RW D (wC ar ag ca P G ++ xs) s.heap H locs) (ls : Array Slot) (hl : lv_has ls 9 [(0, .ref (ag 0)), (1, .int a1), (2, .int a2), (4, .int y108_l4), (6, .int y108_l6)]) (h1 : b_X7_agree_108 y108_l4 y108_l6 y108_s0 = some x_1), W p l e rm_X7_agree s m args below meth c H locs 0 0 Q (F0 m 108 ls [.int y108_s0]) := by
        intro y108_l4 y108_l6 y108_s0 H locs X ls hl h1
        unfold b_X7_agree_108 at h1
        refine lv_istore (lv' := [(5, .int y108_s0), (0, .ref (ag 0)), (1, .int a1), (2, .int a2), (4, .int y108_l4), (6, .int y108_l6)]) hx hb dX7_agree_108 hl (by decide) rfl (fun ls hl => ?_)
        refine lv_iconst (v := 1) hx hb dX7_agree_110 (by decide) ?_
        refine lv_istore_n (lv' := [(3, .int 1), (5, .int y108_s0), (0, .ref (ag 0)), (1, .int a1), (2, .int a2), (4, .int y108_l4), (6, .int y108_l6)]) hx hb dX7_agree_111 rfl hl (by decide) rfl (fun ls hl => ?_)
        exact J112 1 y108_l4 y108_s0 y108_l6 H locs X ls (lv_sub hl [2, 3, 4, 0, 5, 1, 6] rfl) h1
      have J90 : ∀ (y90_l3 : Int32) (y90_l5 : Int32) (y90_l6 : Int32) (y90_l8 : Int32) (y90_s0 : Int32) (H : Heap) (locs : List Loc) (X : RW D (wC ar ag ca P G ++ xs) s.heap H locs) (ls : Array Slot) (hl : lv_has ls 9 [(0, .ref (ag 0)), (1, .int a1), (2, .int a2), (3, .int y90_l3), (5, .int y90_l5), (6, .int y90_l6), (8, .int y90_l8)]) (h1 : b_X7_agree_90 y90_l3 y90_l5 y90_l6 y90_l8 y90_s0 = some x_1), W p l e rm_X7_agree s m args below meth c H locs 0 0 Q (F0 m 90 ls [.int y90_s0]) := by
        intro y90_l3 y90_l5 y90_l6 y90_l8 y90_s0 H locs X ls hl h1
        unfold b_X7_agree_90 at h1
        refine lv_istore (lv' := [(4, .int y90_s0), (0, .ref (ag 0)), (1, .int a1), (2, .int a2), (3, .int y90_l3), (5, .int y90_l5), (6, .int y90_l6), (8, .int y90_l8)]) hx hb dX7_agree_90 hl (by decide) rfl (fun ls hl => ?_)
        refine lv_iload_n hx hb dX7_agree_92 rfl (lv_at hl 4 rfl) ?_
        refine lv_if_eq (tgt := 106) hx hb dX7_agree_93 (by decide) (fun c12 => ?_) (fun c12 => ?_)
        · have h1 := if_t c12 h1
          refine lv_iload hx hb dX7_agree_106 (lv_at hl 7 rfl) ?_
          exact J108 y90_s0 y90_l6 y90_l8 H locs X ls (lv_sub hl [1, 2, 3, 0, 6] rfl) h1
        · have h1 := if_f c12 h1
          refine lv_iload hx hb dX7_agree_96 (lv_at hl 5 rfl) ?_
          refine lv_iload hx hb dX7_agree_98 (lv_at hl 7 rfl) ?_
          refine w_mmax K hl.1 q937 q938 q102 q939 (Nat.le_of_ble_eq_true rfl) (Nat.le_of_ble_eq_true rfl) (Nat.le_of_ble_eq_true rfl) (Nat.le_of_ble_eq_true rfl) dX7_agree_100 ?_
          refine lv_goto (tgt := 108) hx hb dX7_agree_103 (by decide) ?_
          exact J108 y90_s0 y90_l6 (jmax y90_l5 y90_l8) H locs X ls (lv_sub hl [1, 2, 3, 0, 6] rfl) h1
      refine lv_iload hx hb dX7_agree_23 (lv_at hl 6 rfl) ?_
      refine lv_aload_n hx hb dX7_agree_25 rfl (lv_at hl 0 rfl) ?_
      refine g_objr K X 0 (by decide) rfl q361 dX7_agree_26 ?_
      refine g_rowi K X (by decide) rfl 2 (by decide) q231 dX7_agree_29 ?_
      refine lv_icmp_ge (tgt := 118) hx hb dX7_agree_32 (by decide) (fun c3 => ?_) (fun c3 => ?_)
      · have h1 := if_t c3 h1
        have q1 := wl_r h1 hx1
        exact J118 z23_4 z23_5 H locs X ls (lv_sub hl [2, 4, 5] rfl) (by rw [q1] at h0; exact h0)
      · have h1 := if_f c3 h1
        refine lv_aload_n hx hb dX7_agree_35 rfl (lv_at hl 0 rfl) ?_
        refine g_objr K X 0 (by decide) rfl q361 dX7_agree_36 ?_
        refine lv_iload hx hb dX7_agree_39 (lv_at hl 6 rfl) ?_
        obtain ⟨x5, ex5, h1⟩ := lt_out h1
        have kx5 := mC_X3_tubeAt l D ca ar ag P 0 G xs (by decide) z23_6 x5 ex5.symm H.size
        refine w_callV0 K X wC_fstx kx5 hl.1 1 q403 q404 q405 q88 q406 hv_X3_tubeAt ⟨⟨Nat.le_of_ble_eq_true rfl, Nat.le_of_ble_eq_true rfl⟩, rfl, rfl⟩ (pl_rowo (by decide)) rfl rfl rfl rfl (Nat.le_of_ble_eq_true rfl) dX7_agree_41 ⟨Nat.le_of_ble_eq_true rfl, Nat.le_of_ble_eq_true rfl⟩ rfl (fun H locs X => ?_)
        obtain ⟨j6, ej6, h1⟩ := lt_out h1
        rw [← ej6]
        have hj6 : j6 < 13 := by rw [ej6]; exact lt_X3_tubeAt ex5
        refine lv_astore (lv' := [(7, .ref (ar 0 (j6 + 5))), (0, .ref (ag 0)), (1, .int a1), (2, .int a2), (3, .int z23_3), (4, .int z23_4), (5, .int z23_5), (6, .int z23_6)]) hx hb dX7_agree_44 hl (by decide) rfl (fun ls hl => ?_)
        refine lv_aload hx hb dX7_agree_46 (lv_at hl 0 rfl) ?_
        refine g_tube K X (by decide) hj6 rfl 6 (by decide) q194 dX7_agree_48 ?_
        refine lv_if_ne (tgt := 112) hx hb dX7_agree_51 (by decide) (fun c7 => ?_) (fun c7 => ?_)
        · have h1 := if_f c7 h1
          exact J112 z23_3 z23_4 z23_5 z23_6 H locs X ls (lv_sub hl [1, 2, 3, 4, 5, 6, 7] rfl) h1
        · have h1 := if_t c7 h1
          refine lv_aload hx hb dX7_agree_54 (lv_at hl 0 rfl) ?_
          refine g_tube K X (by decide) hj6 rfl 1 (by decide) q181 dX7_agree_56 ?_
          refine lv_iload_n hx hb dX7_agree_59 rfl (lv_at hl 2 rfl) ?_
          refine lv_icmp_ne (tgt := 112) hx hb dX7_agree_60 (by decide) (fun c9 => ?_) (fun c9 => ?_)
          · have h1 := if_f c9 h1
            exact J112 z23_3 z23_4 z23_5 z23_6 H locs X ls (lv_sub hl [1, 2, 3, 4, 5, 6, 7] rfl) h1
          · have h1 := if_t c9 h1
            refine lv_aload_n hx hb dX7_agree_63 rfl (lv_at hl 1 rfl) ?_
            refine g_objr K X 0 (by decide) rfl q361 dX7_agree_64 ?_
            refine lv_aload hx hb dX7_agree_67 (lv_at hl 0 rfl) ?_
            obtain ⟨x10, ex10, h1⟩ := lt_out h1
            have kx10 := mC_X3_toldBy l D ca ar ag P 0 G xs (by decide) j6 hj6 x10 ex10.symm H.size
            refine w_callV0 K X wC_fstx kx10 hl.1 1 q904 q412 q413 q88 q414 hv_X3_toldBy ⟨⟨Nat.le_of_ble_eq_true rfl, Nat.le_of_ble_eq_true rfl⟩, rfl, rfl⟩ (pl_rowo (by decide)) rfl rfl rfl rfl (Nat.le_of_ble_eq_true rfl) dX7_agree_69 ⟨Nat.le_of_ble_eq_true rfl, Nat.le_of_ble_eq_true rfl⟩ rfl (fun H locs X => ?_)
            refine lv_istore (lv' := [(8, .int x10), (7, .ref (ar 0 (j6 + 5))), (0, .ref (ag 0)), (1, .int a1), (2, .int a2), (3, .int z23_3), (4, .int z23_4), (5, .int z23_5), (6, .int z23_6)]) hx hb dX7_agree_72 hl (by decide) rfl (fun ls hl => ?_)
            refine lv_iload_n hx hb dX7_agree_74 rfl (lv_at hl 5 rfl) ?_
            refine lv_if_eq (tgt := 88) hx hb dX7_agree_75 (by decide) (fun c11 => ?_) (fun c11 => ?_)
            · have h1 := if_t c11 h1
              refine lv_iload hx hb dX7_agree_88 (lv_at hl 0 rfl) ?_
              exact J90 z23_3 z23_5 z23_6 x10 x10 H locs X ls (lv_sub hl [2, 3, 4, 5, 7, 8, 0] rfl) h1
            · have h1 := if_f c11 h1
              refine lv_iload hx hb dX7_agree_78 (lv_at hl 6 rfl) ?_
              refine lv_iload hx hb dX7_agree_80 (lv_at hl 0 rfl) ?_
              refine w_mmin K hl.1 q936 q479 q102 q480 (Nat.le_of_ble_eq_true rfl) (Nat.le_of_ble_eq_true rfl) (Nat.le_of_ble_eq_true rfl) (Nat.le_of_ble_eq_true rfl) dX7_agree_82 ?_
              refine lv_goto (tgt := 90) hx hb dX7_agree_85 (by decide) ?_
              exact J90 z23_3 z23_5 z23_6 x10 (jmin z23_4 x10) H locs X ls (lv_sub hl [2, 3, 4, 5, 7, 8, 0] rfl) h1
  exact K23 n 0 0 0 0 H locs X ls (lv_sub hl [4, 5, 6, 3, 2, 1, 0] rfl) he1
-- X7_tryPressure
def f_X7_tryPressure (n : Nat) (P : RowsS) (G : GlbS) (a1 : Int32) (a2 : Int32) : Option RowsS :=
  ob (f_X3_copyFrom n (P 1) (P 0)) fun x1 =>
  lt (va_up P 1 x1) fun Pv2 =>
  lt (f_X3_press (Pv2 1) a1 a2) fun x3 =>
  lt (va_up Pv2 1 x3) fun Pv4 =>
  ob (f_X3_settle n (Pv4 1)) fun x5 =>
  lt (va_up Pv4 1 x5.2) fun Pv6 =>
  some Pv6
abbrev rm_X7_tryPressure : Room := { frames := 6, cells := 0, slots := 0, locals := 166 }
set_option maxRecDepth 100000 in
set_option maxHeartbeats 4000000 in
theorem m_X7_tryPressure (l : Launch) (D : va_G) (ca : Nat → ClassId) (ar : Nat → Nat → Nat) (ag : Nat → Nat) (n : Nat) (P : RowsS) (G : GlbS) (xs : va_W) (a1 : Int32) (a2 : Int32) (P' : RowsS) (h0 : f_X7_tryPressure n P G a1 a2 = some P') (sz : Nat) : Met l yX7_tryPressure (ws_ yX7_tryPressure cX7_tryPressure 3 none) rm_X7_tryPressure (PCw D ca (wC ar ag ca P G ++ xs) sz [.ref (ag 0), .int a1, .int a2]) (QMw D (wC ar ag ca P G ++ xs) (wC ar ag ca (P') G ++ xs) sz none) 0 0 (AL (wC ar ag ca P G ++ xs) sz) := by
  refine met_of (by decide) (Nat.le_of_ble_eq_true rfl) (fun p e s m args below meth c K hr0 X hsz ls hl => ?_)
  have K : MC D ca p s m args meth c cX7_tryPressure 3 RX7 := K
  have hx := K.1
  have hb := K.2.1
  have hl : lv_has ls 3 [(0, .ref (ag 0)), (1, .int a1), (2, .int a2)] := hl
  generalize hQ : MQ below _ args s 0 0 _ = Q
  unfold f_X7_tryPressure at h0
  suffices Z : ∀ (H : Heap) (locs : List Loc) (X : RW D (wC ar ag ca P G ++ xs) s.heap H locs), W p l e rm_X7_tryPressure s m args below meth c H locs 0 0 Q (F0 m 0 ls []) from Z _ _ X
  intro H locs X
  refine lv_aload_n hx hb dX7_tryPressure_0 rfl (lv_at hl 0 rfl) ?_
  refine g_objr K X 1 (by decide) rfl q362 dX7_tryPressure_1 ?_
  refine lv_aload_n hx hb dX7_tryPressure_4 rfl (lv_at hl 0 rfl) ?_
  refine g_objr K X 0 (by decide) rfl q361 dX7_tryPressure_5 ?_
  obtain ⟨x1, ex1, h0⟩ := ob_out h0
  obtain ⟨Pv2, ePv2, h0⟩ := lt_out h0
  have kx1 := mC_X3_copyFrom l D ca ar ag n P 1 G xs (by decide) 0 (by decide) (by decide) x1 ex1 H.size
  rw [← ePv2] at kx1
  refine w_callV0 K X wC_fstx kx1 hl.1 1 q540 q517 q518 q88 q519 hv_X3_copyFrom ⟨⟨Nat.le_of_ble_eq_true rfl, Nat.le_of_ble_eq_true rfl⟩, rfl, rfl⟩ (pl_rowo (by decide)) rfl rfl rfl rfl (Nat.le_of_ble_eq_true rfl) dX7_tryPressure_8 ⟨Nat.le_of_ble_eq_true rfl, Nat.le_of_ble_eq_true rfl⟩ rfl (fun H locs X => ?_)
  refine lv_aload_n hx hb dX7_tryPressure_11 rfl (lv_at hl 0 rfl) ?_
  refine g_objr K X 1 (by decide) rfl q362 dX7_tryPressure_12 ?_
  refine lv_iload_n hx hb dX7_tryPressure_15 rfl (lv_at hl 1 rfl) ?_
  refine lv_iload_n hx hb dX7_tryPressure_16 rfl (lv_at hl 2 rfl) ?_
  obtain ⟨x3, ex3, h0⟩ := lt_out h0
  obtain ⟨Pv4, ePv4, h0⟩ := lt_out h0
  have kx3 := mC_X3_press l D ca ar ag Pv2 1 G xs (by decide) a1 a2 x3 ex3.symm H.size
  rw [← ePv4] at kx3
  refine w_callV0 K X wC_fstx kx3 hl.1 2 q951 q756 q757 q88 q758 hv_X3_press ⟨⟨Nat.le_of_ble_eq_true rfl, Nat.le_of_ble_eq_true rfl⟩, rfl, rfl⟩ (pl_rowo (by decide)) rfl rfl rfl rfl (Nat.le_of_ble_eq_true rfl) dX7_tryPressure_17 ⟨Nat.le_of_ble_eq_true rfl, Nat.le_of_ble_eq_true rfl⟩ rfl (fun H locs X => ?_)
  refine lv_aload_n hx hb dX7_tryPressure_20 rfl (lv_at hl 0 rfl) ?_
  refine g_objr K X 1 (by decide) rfl q362 dX7_tryPressure_21 ?_
  obtain ⟨x5, ex5, h0⟩ := ob_out h0
  obtain ⟨Pv6, ePv6, h0⟩ := lt_out h0
  have kx5 := mC_X3_settle l D ca ar ag n Pv4 1 G xs (by decide) x5.1 x5.2 ex5 H.size
  rw [← ePv6] at kx5
  refine w_callV0 K X wC_fstx kx5 hl.1 0 q763 q764 q765 q88 q766 hv_X3_settle ⟨⟨Nat.le_of_ble_eq_true rfl, Nat.le_of_ble_eq_true rfl⟩, rfl, rfl⟩ (pl_rowo (by decide)) rfl rfl rfl rfl (Nat.le_of_ble_eq_true rfl) dX7_tryPressure_24 ⟨Nat.le_of_ble_eq_true rfl, Nat.le_of_ble_eq_true rfl⟩ rfl (fun H locs X => ?_)
  refine lv_pop hx hb dX7_tryPressure_27 rfl ?_
  have h0 := Option.some.inj h0
  subst h0
  subst hQ
  exact w_vret K hr0 X wC_fstx hsz dX7_tryPressure_28
-- X7_wouldBreak
def b_X7_wouldBreak_78  (y78_l3 : Int32) (P_78 : RowsS) : Option (Int32 × RowsS) :=
  some (y78_l3, P_78)
def b_X7_wouldBreak_72  (y72_l3 : Int32) (y72_l4 : Int32) : Option ((Int32 × Int32) ⊕ Int32) :=
  lt (y72_l4 + 1) fun x9 =>
  some (.inl (y72_l3, x9))
def l_X7_wouldBreak_23 (Pv4 : RowsS) (z23_3 : Int32) (z23_4 : Int32) : Option ((Int32 × Int32) ⊕ Int32) :=
  if ((Pv4 0).1 0 2) ≤ z23_4 then
    some (.inr z23_3)
  else
    lt (f_X3_tubeAt (Pv4 0) z23_4) fun x6 =>
    lt (x6) fun j7 =>
    if ((Pv4 0).1 (j7 + 5) 6) = 0 then
      lt (f_X3_tubeAt (Pv4 1) z23_4) fun x10 =>
      lt (x10) fun j11 =>
      if ((Pv4 1).1 (j11 + 5) 6) = 0 then
        b_X7_wouldBreak_72 z23_3 z23_4
      else
        lt (z23_3 ||| ((1 : Int32) <<< (z23_4 &&& 31))) fun x13 =>
        b_X7_wouldBreak_72 x13 z23_4
    else
      b_X7_wouldBreak_72 z23_3 z23_4
def f_X7_wouldBreak (n : Nat) (P : RowsS) (G : GlbS) (a1 : Int32) (a2 : Int32) : Option (Int32 × RowsS) :=
  ob (f_X7_requirePoint P G a1) fun x1 =>
  ob (f_X7_requireWithin a2 0 99999) fun x2 =>
  ob (f_X7_tryPressure n P G a1 a2) fun x3 =>
  lt (x3) fun Pv4 =>
  ob (wloop (fun t => l_X7_wouldBreak_23 Pv4 t.1 t.2) n (0, 0)) (fun t => b_X7_wouldBreak_78 t Pv4)
abbrev rm_X7_wouldBreak : Room := { frames := 7, cells := 0, slots := 0, locals := 188 }
set_option maxRecDepth 100000 in
set_option maxHeartbeats 4000000 in
theorem m_X7_wouldBreak (l : Launch) (D : va_G) (ca : Nat → ClassId) (ar : Nat → Nat → Nat) (ag : Nat → Nat) (z : ZG) (n : Nat) (P : RowsS) (G : GlbS) (xs : va_W) (a1 : Int32) (a2 : Int32) (res : Int32) (P' : RowsS) (h0 : f_X7_wouldBreak n P G a1 a2 = some (res, P')) (sz : Nat) : Met l yX7_wouldBreak (ws_ yX7_wouldBreak cX7_wouldBreak 5 (some .int)) rm_X7_wouldBreak (PCz z D ca (wC ar ag ca P G ++ xs) sz [.ref (ag 0), .int a1, .int a2]) (QMw D (wC ar ag ca P G ++ xs) (wC ar ag ca (P') G ++ xs) sz (some (.int res))) 0 0 (AL (wC ar ag ca P G ++ xs) sz) := by
  refine met_z (by decide +kernel) (Nat.le_of_ble_eq_true rfl) (fun p e s m args below meth c K hr0 hZ X hsz ls hl => ?_)
  have K : MC D ca p s m args meth c cX7_wouldBreak 5 RX7 := K
  have hx := K.1
  have hb := K.2.1
  have hl : lv_has ls 5 [(0, .ref (ag 0)), (1, .int a1), (2, .int a2)] := hl
  generalize hQ : MQ below _ args s 0 0 _ = Q
  unfold f_X7_wouldBreak at h0
  suffices Z : ∀ (H : Heap) (locs : List Loc) (X : RW D (wC ar ag ca P G ++ xs) s.heap H locs), W p l e rm_X7_wouldBreak s m args below meth c H locs 0 0 Q (F0 m 0 ls []) from Z _ _ X
  intro H locs X
  have J78 : ∀ (y78_l3 : Int32) (P_78 : RowsS) (H : Heap) (locs : List Loc) (X : RW D (wC ar ag ca P_78 G ++ xs) s.heap H locs) (ls : Array Slot) (hl : lv_has ls 5 [(3, .int y78_l3)]) (h0 : b_X7_wouldBreak_78 y78_l3 P_78 = some (res, P')), W p l e rm_X7_wouldBreak s m args below meth c H locs 0 0 Q (F0 m 78 ls []) := by
    intro y78_l3 P_78 H locs X ls hl h0
    unfold b_X7_wouldBreak_78 at h0
    refine lv_iload_n hx hb dX7_wouldBreak_78 rfl (lv_at hl 0 rfl) ?_
    have h0 := Option.some.inj h0
    obtain ⟨q_0, q_1⟩ := Prod.mk.inj h0
    subst q_0
    subst q_1
    subst hQ
    exact w_iret K hr0 X wC_fstx hsz dX7_wouldBreak_79
  refine lv_aload_n hx hb dX7_wouldBreak_0 rfl (lv_at hl 0 rfl) ?_
  refine lv_iload_n hx hb dX7_wouldBreak_1 rfl (lv_at hl 1 rfl) ?_
  obtain ⟨x1, ex1, h0⟩ := ob_out h0
  have kx1 := m_X7_requirePoint l D ca ar ag z P G xs a1  ex1 H.size
  refine z_callV K hZ X wC_fstx wC_fstx kx1 hl.1 1 q851 q853 q9 q87 q854 hv_X7_requirePoint ⟨⟨Nat.le_of_ble_eq_true rfl, Nat.le_of_ble_eq_true rfl⟩, rfl, rfl⟩ (z_recvw K X (pl_glb (k := 0) (by decide)) rfl rfl) rfl rfl (Nat.le_of_ble_eq_true rfl) dX7_wouldBreak_2 ⟨Nat.le_of_ble_eq_true rfl, Nat.le_of_ble_eq_true rfl⟩ rfl (fun H locs X => ?_)
  refine lv_iload_n hx hb dX7_wouldBreak_5 rfl (lv_at hl 2 rfl) ?_
  refine lv_iconst (v := 0) hx hb dX7_wouldBreak_6 (by decide) ?_
  refine lv_ldc hx hb K.2.2.2.1 (K.2.2.2.2.1 _ q935) dX7_wouldBreak_7 ?_
  obtain ⟨x2, ex2, h0⟩ := ob_out h0
  have kx2 := m_X7_requireWithin l D ca z (wC ar ag ca P G ++ xs) a2 0 99999  ex2 H.size
  refine z_callS K hZ X wC_fstx wC_fstx kx2 hl.1 3 q557 q558 q87 q559 hs_X7_requireWithin ⟨⟨Nat.le_of_ble_eq_true rfl, Nat.le_of_ble_eq_true rfl⟩, rfl, rfl⟩ rfl rfl (Nat.le_of_ble_eq_true rfl) dX7_wouldBreak_9 ⟨Nat.le_of_ble_eq_true rfl, Nat.le_of_ble_eq_true rfl⟩ rfl (fun H locs X => ?_)
  refine lv_aload_n hx hb dX7_wouldBreak_12 rfl (lv_at hl 0 rfl) ?_
  refine lv_iload_n hx hb dX7_wouldBreak_13 rfl (lv_at hl 1 rfl) ?_
  refine lv_iload_n hx hb dX7_wouldBreak_14 rfl (lv_at hl 2 rfl) ?_
  obtain ⟨x3, ex3, h0⟩ := ob_out h0
  obtain ⟨Pv4, ePv4, h0⟩ := lt_out h0
  have kx3 := m_X7_tryPressure l D ca ar ag n P G xs a1 a2 x3 ex3 H.size
  rw [← ePv4] at kx3
  refine w_callV0 K X wC_fstx kx3 hl.1 2 q947 q949 q11 q87 q950 hv_X7_tryPressure ⟨⟨Nat.le_of_ble_eq_true rfl, Nat.le_of_ble_eq_true rfl⟩, rfl, rfl⟩ (pl_glb (k := 0) (by decide)) rfl rfl rfl rfl (Nat.le_of_ble_eq_true rfl) dX7_wouldBreak_15 ⟨Nat.le_of_ble_eq_true rfl, Nat.le_of_ble_eq_true rfl⟩ rfl (fun H locs X => ?_)
  refine lv_iconst (v := 0) hx hb dX7_wouldBreak_18 (by decide) ?_
  refine lv_istore_n (lv' := [(3, .int 0), (0, .ref (ag 0)), (1, .int a1), (2, .int a2)]) hx hb dX7_wouldBreak_19 rfl hl (by decide) rfl (fun ls hl => ?_)
  refine lv_iconst (v := 0) hx hb dX7_wouldBreak_20 (by decide) ?_
  refine lv_istore (lv' := [(4, .int 0), (3, .int 0), (0, .ref (ag 0)), (1, .int a1), (2, .int a2)]) hx hb dX7_wouldBreak_21 hl (by decide) rfl (fun ls hl => ?_)
  obtain ⟨e_1, he1, h0⟩ := ob_out h0
  have K23 : ∀ (k : Nat) (z23_3 : Int32) (z23_4 : Int32) (H : Heap) (locs : List Loc) (X : RW D (wC ar ag ca Pv4 G ++ xs) s.heap H locs) (ls : Array Slot) (hl : lv_has ls 5 [(0, .ref (ag 0)), (3, .int z23_3), (4, .int z23_4)]) (hw : wloop (fun t => l_X7_wouldBreak_23 Pv4 t.1 t.2) k (z23_3, z23_4) = some e_1), W p l e rm_X7_wouldBreak s m args below meth c H locs 0 0 Q (F0 m 23 ls []) := by
    intro k
    induction k with
    | zero => intro z23_3 z23_4 H locs X ls hl hw; exact (wloop_0 hw).elim
    | succ k ih1 =>
      intro z23_3 z23_4 H locs X ls hl hw
      obtain ⟨x_1, h1, hx1⟩ := wloop_out hw
      have h1 : l_X7_wouldBreak_23 Pv4 z23_3 z23_4 = some x_1 := h1
      unfold l_X7_wouldBreak_23 at h1
      have J72 : ∀ (y72_l3 : Int32) (y72_l4 : Int32) (H : Heap) (locs : List Loc) (X : RW D (wC ar ag ca Pv4 G ++ xs) s.heap H locs) (ls : Array Slot) (hl : lv_has ls 5 [(0, .ref (ag 0)), (3, .int y72_l3), (4, .int y72_l4)]) (h1 : b_X7_wouldBreak_72 y72_l3 y72_l4 = some x_1), W p l e rm_X7_wouldBreak s m args below meth c H locs 0 0 Q (F0 m 72 ls []) := by
        intro y72_l3 y72_l4 H locs X ls hl h1
        unfold b_X7_wouldBreak_72 at h1
        obtain ⟨x9, ex9, h1⟩ := lt_out h1
        refine lv_iinc (v := x9) (lv' := [(4, .int x9), (0, .ref (ag 0)), (3, .int y72_l3)]) hx hb dX7_wouldBreak_72 hl (k := 2) rfl (by rw [ex9]; rfl) (by decide) rfl (fun ls hl => ?_)
        refine lv_goto (tgt := 23) hx hb dX7_wouldBreak_75 (by decide) ?_
        exact ih1 y72_l3 x9 H locs X ls (lv_sub hl [1, 2, 0] rfl) (wl_l h1 hx1)
      refine lv_iload hx hb dX7_wouldBreak_23 (lv_at hl 2 rfl) ?_
      refine lv_aload_n hx hb dX7_wouldBreak_25 rfl (lv_at hl 0 rfl) ?_
      refine g_objr K X 0 (by decide) rfl q361 dX7_wouldBreak_26 ?_
      refine g_rowi K X (by decide) rfl 2 (by decide) q231 dX7_wouldBreak_29 ?_
      refine lv_icmp_ge (tgt := 78) hx hb dX7_wouldBreak_32 (by decide) (fun c5 => ?_) (fun c5 => ?_)
      · have h1 := if_t c5 h1
        have q1 := wl_r h1 hx1
        exact J78 z23_3 Pv4 H locs X ls (lv_sub hl [1] rfl) (by rw [q1] at h0; exact h0)
      · have h1 := if_f c5 h1
        refine lv_aload_n hx hb dX7_wouldBreak_35 rfl (lv_at hl 0 rfl) ?_
        refine g_objr K X 0 (by decide) rfl q361 dX7_wouldBreak_36 ?_
        refine lv_iload hx hb dX7_wouldBreak_39 (lv_at hl 2 rfl) ?_
        obtain ⟨x6, ex6, h1⟩ := lt_out h1
        have kx6 := mC_X3_tubeAt l D ca ar ag Pv4 0 G xs (by decide) z23_4 x6 ex6.symm H.size
        refine w_callV0 K X wC_fstx kx6 hl.1 1 q403 q404 q405 q88 q406 hv_X3_tubeAt ⟨⟨Nat.le_of_ble_eq_true rfl, Nat.le_of_ble_eq_true rfl⟩, rfl, rfl⟩ (pl_rowo (by decide)) rfl rfl rfl rfl (Nat.le_of_ble_eq_true rfl) dX7_wouldBreak_41 ⟨Nat.le_of_ble_eq_true rfl, Nat.le_of_ble_eq_true rfl⟩ rfl (fun H locs X => ?_)
        obtain ⟨j7, ej7, h1⟩ := lt_out h1
        rw [← ej7]
        have hj7 : j7 < 13 := by rw [ej7]; exact lt_X3_tubeAt ex6
        refine g_tube K X (by decide) hj7 rfl 6 (by decide) q194 dX7_wouldBreak_44 ?_
        refine lv_if_ne (tgt := 72) hx hb dX7_wouldBreak_47 (by decide) (fun c8 => ?_) (fun c8 => ?_)
        · have h1 := if_f c8 h1
          exact J72 z23_3 z23_4 H locs X ls (lv_sub hl [0, 1, 2] rfl) h1
        · have h1 := if_t c8 h1
          refine lv_aload_n hx hb dX7_wouldBreak_50 rfl (lv_at hl 0 rfl) ?_
          refine g_objr K X 1 (by decide) rfl q362 dX7_wouldBreak_51 ?_
          refine lv_iload hx hb dX7_wouldBreak_54 (lv_at hl 2 rfl) ?_
          obtain ⟨x10, ex10, h1⟩ := lt_out h1
          have kx10 := mC_X3_tubeAt l D ca ar ag Pv4 1 G xs (by decide) z23_4 x10 ex10.symm H.size
          refine w_callV0 K X wC_fstx kx10 hl.1 1 q403 q404 q405 q88 q406 hv_X3_tubeAt ⟨⟨Nat.le_of_ble_eq_true rfl, Nat.le_of_ble_eq_true rfl⟩, rfl, rfl⟩ (pl_rowo (by decide)) rfl rfl rfl rfl (Nat.le_of_ble_eq_true rfl) dX7_wouldBreak_56 ⟨Nat.le_of_ble_eq_true rfl, Nat.le_of_ble_eq_true rfl⟩ rfl (fun H locs X => ?_)
          obtain ⟨j11, ej11, h1⟩ := lt_out h1
          rw [← ej11]
          have hj11 : j11 < 13 := by rw [ej11]; exact lt_X3_tubeAt ex10
          refine g_tube K X (by decide) hj11 rfl 6 (by decide) q194 dX7_wouldBreak_59 ?_
          refine lv_if_eq (tgt := 72) hx hb dX7_wouldBreak_62 (by decide) (fun c12 => ?_) (fun c12 => ?_)
          · have h1 := if_t c12 h1
            exact J72 z23_3 z23_4 H locs X ls (lv_sub hl [0, 1, 2] rfl) h1
          · have h1 := if_f c12 h1
            refine lv_iload_n hx hb dX7_wouldBreak_65 rfl (lv_at hl 1 rfl) ?_
            refine lv_iconst (v := 1) hx hb dX7_wouldBreak_66 (by decide) ?_
            refine lv_iload hx hb dX7_wouldBreak_67 (lv_at hl 2 rfl) ?_
            refine lv_ishl hx hb dX7_wouldBreak_69 ?_
            refine lv_ior hx hb dX7_wouldBreak_70 ?_
            obtain ⟨x13, ex13, h1⟩ := lt_out h1
            refine w_int ex13 ?_
            refine lv_istore_n (lv' := [(3, .int x13), (0, .ref (ag 0)), (4, .int z23_4)]) hx hb dX7_wouldBreak_71 rfl hl (by decide) rfl (fun ls hl => ?_)
            exact J72 x13 z23_4 H locs X ls (lv_sub hl [1, 0, 2] rfl) h1
  exact K23 n 0 0 H locs X ls (lv_sub hl [2, 1, 0] rfl) he1
-- X7_readingWith
def f_X7_readingWith (n : Nat) (P : RowsS) (G : GlbS) (a1 : Int32) (a2 : Int32) (a3 : Int32) : Option (Int32 × RowsS) :=
  ob (f_X7_requireTube P G a1) fun x1 =>
  ob (f_X7_requirePoint P G a2) fun x2 =>
  ob (f_X7_requireWithin a3 0 99999) fun x3 =>
  ob (f_X7_tryPressure n P G a2 a3) fun x4 =>
  lt (x4) fun Pv5 =>
  lt (f_X3_tubeAt (Pv5 1) a1) fun x6 =>
  lt (x6) fun j7 =>
  lt (f_X6_shownReading ((Pv5 1).1 (j7 + 5))) fun x8 =>
  some (x8, Pv5)
abbrev rm_X7_readingWith : Room := { frames := 7, cells := 0, slots := 0, locals := 188 }
set_option maxRecDepth 100000 in
set_option maxHeartbeats 4000000 in
theorem m_X7_readingWith (l : Launch) (D : va_G) (ca : Nat → ClassId) (ar : Nat → Nat → Nat) (ag : Nat → Nat) (z : ZG) (n : Nat) (P : RowsS) (G : GlbS) (xs : va_W) (a1 : Int32) (a2 : Int32) (a3 : Int32) (res : Int32) (P' : RowsS) (h0 : f_X7_readingWith n P G a1 a2 a3 = some (res, P')) (sz : Nat) : Met l yX7_readingWith (ws_ yX7_readingWith cX7_readingWith 4 (some .int)) rm_X7_readingWith (PCz z D ca (wC ar ag ca P G ++ xs) sz [.ref (ag 0), .int a1, .int a2, .int a3]) (QMw D (wC ar ag ca P G ++ xs) (wC ar ag ca (P') G ++ xs) sz (some (.int res))) 0 0 (AL (wC ar ag ca P G ++ xs) sz) := by
  refine met_z (by decide +kernel) (Nat.le_of_ble_eq_true rfl) (fun p e s m args below meth c K hr0 hZ X hsz ls hl => ?_)
  have K : MC D ca p s m args meth c cX7_readingWith 4 RX7 := K
  have hx := K.1
  have hb := K.2.1
  have hl : lv_has ls 4 [(0, .ref (ag 0)), (1, .int a1), (2, .int a2), (3, .int a3)] := hl
  generalize hQ : MQ below _ args s 0 0 _ = Q
  unfold f_X7_readingWith at h0
  suffices Z : ∀ (H : Heap) (locs : List Loc) (X : RW D (wC ar ag ca P G ++ xs) s.heap H locs), W p l e rm_X7_readingWith s m args below meth c H locs 0 0 Q (F0 m 0 ls []) from Z _ _ X
  intro H locs X
  refine lv_aload_n hx hb dX7_readingWith_0 rfl (lv_at hl 0 rfl) ?_
  refine lv_iload_n hx hb dX7_readingWith_1 rfl (lv_at hl 1 rfl) ?_
  obtain ⟨x1, ex1, h0⟩ := ob_out h0
  have kx1 := m_X7_requireTube l D ca ar ag z P G xs a1  ex1 H.size
  refine z_callV K hZ X wC_fstx wC_fstx kx1 hl.1 1 q886 q888 q10 q87 q889 hv_X7_requireTube ⟨⟨Nat.le_of_ble_eq_true rfl, Nat.le_of_ble_eq_true rfl⟩, rfl, rfl⟩ (z_recvw K X (pl_glb (k := 0) (by decide)) rfl rfl) rfl rfl (Nat.le_of_ble_eq_true rfl) dX7_readingWith_2 ⟨Nat.le_of_ble_eq_true rfl, Nat.le_of_ble_eq_true rfl⟩ rfl (fun H locs X => ?_)
  refine lv_aload_n hx hb dX7_readingWith_5 rfl (lv_at hl 0 rfl) ?_
  refine lv_iload_n hx hb dX7_readingWith_6 rfl (lv_at hl 2 rfl) ?_
  obtain ⟨x2, ex2, h0⟩ := ob_out h0
  have kx2 := m_X7_requirePoint l D ca ar ag z P G xs a2  ex2 H.size
  refine z_callV K hZ X wC_fstx wC_fstx kx2 hl.1 1 q851 q853 q9 q87 q854 hv_X7_requirePoint ⟨⟨Nat.le_of_ble_eq_true rfl, Nat.le_of_ble_eq_true rfl⟩, rfl, rfl⟩ (z_recvw K X (pl_glb (k := 0) (by decide)) rfl rfl) rfl rfl (Nat.le_of_ble_eq_true rfl) dX7_readingWith_7 ⟨Nat.le_of_ble_eq_true rfl, Nat.le_of_ble_eq_true rfl⟩ rfl (fun H locs X => ?_)
  refine lv_iload_n hx hb dX7_readingWith_10 rfl (lv_at hl 3 rfl) ?_
  refine lv_iconst (v := 0) hx hb dX7_readingWith_11 (by decide) ?_
  refine lv_ldc hx hb K.2.2.2.1 (K.2.2.2.2.1 _ q935) dX7_readingWith_12 ?_
  obtain ⟨x3, ex3, h0⟩ := ob_out h0
  have kx3 := m_X7_requireWithin l D ca z (wC ar ag ca P G ++ xs) a3 0 99999  ex3 H.size
  refine z_callS K hZ X wC_fstx wC_fstx kx3 hl.1 3 q557 q558 q87 q559 hs_X7_requireWithin ⟨⟨Nat.le_of_ble_eq_true rfl, Nat.le_of_ble_eq_true rfl⟩, rfl, rfl⟩ rfl rfl (Nat.le_of_ble_eq_true rfl) dX7_readingWith_14 ⟨Nat.le_of_ble_eq_true rfl, Nat.le_of_ble_eq_true rfl⟩ rfl (fun H locs X => ?_)
  refine lv_aload_n hx hb dX7_readingWith_17 rfl (lv_at hl 0 rfl) ?_
  refine lv_iload_n hx hb dX7_readingWith_18 rfl (lv_at hl 2 rfl) ?_
  refine lv_iload_n hx hb dX7_readingWith_19 rfl (lv_at hl 3 rfl) ?_
  obtain ⟨x4, ex4, h0⟩ := ob_out h0
  obtain ⟨Pv5, ePv5, h0⟩ := lt_out h0
  have kx4 := m_X7_tryPressure l D ca ar ag n P G xs a2 a3 x4 ex4 H.size
  rw [← ePv5] at kx4
  refine w_callV0 K X wC_fstx kx4 hl.1 2 q947 q949 q11 q87 q950 hv_X7_tryPressure ⟨⟨Nat.le_of_ble_eq_true rfl, Nat.le_of_ble_eq_true rfl⟩, rfl, rfl⟩ (pl_glb (k := 0) (by decide)) rfl rfl rfl rfl (Nat.le_of_ble_eq_true rfl) dX7_readingWith_20 ⟨Nat.le_of_ble_eq_true rfl, Nat.le_of_ble_eq_true rfl⟩ rfl (fun H locs X => ?_)
  refine lv_aload_n hx hb dX7_readingWith_23 rfl (lv_at hl 0 rfl) ?_
  refine g_objr K X 1 (by decide) rfl q362 dX7_readingWith_24 ?_
  refine lv_iload_n hx hb dX7_readingWith_27 rfl (lv_at hl 1 rfl) ?_
  obtain ⟨x6, ex6, h0⟩ := lt_out h0
  have kx6 := mC_X3_tubeAt l D ca ar ag Pv5 1 G xs (by decide) a1 x6 ex6.symm H.size
  refine w_callV0 K X wC_fstx kx6 hl.1 1 q403 q404 q405 q88 q406 hv_X3_tubeAt ⟨⟨Nat.le_of_ble_eq_true rfl, Nat.le_of_ble_eq_true rfl⟩, rfl, rfl⟩ (pl_rowo (by decide)) rfl rfl rfl rfl (Nat.le_of_ble_eq_true rfl) dX7_readingWith_28 ⟨Nat.le_of_ble_eq_true rfl, Nat.le_of_ble_eq_true rfl⟩ rfl (fun H locs X => ?_)
  obtain ⟨j7, ej7, h0⟩ := lt_out h0
  rw [← ej7]
  have hj7 : j7 < 13 := by rw [ej7]; exact lt_X3_tubeAt ex6
  obtain ⟨x8, ex8, h0⟩ := lt_out h0
  have kx8 := mC_X6_shownReading l D ca ar ag Pv5 1 j7 G xs (by decide) hj7 x8 ex8.symm H.size
  refine w_callV0 K X wC_fstx kx8 hl.1 0 q447 q448 q449 q90 q450 hv_X6_shownReading ⟨⟨Nat.le_of_ble_eq_true rfl, Nat.le_of_ble_eq_true rfl⟩, rfl, rfl⟩ (pl_tube (by decide) hj7) rfl rfl rfl rfl (Nat.le_of_ble_eq_true rfl) dX7_readingWith_31 ⟨Nat.le_of_ble_eq_true rfl, Nat.le_of_ble_eq_true rfl⟩ rfl (fun H locs X => ?_)
  have h0 := Option.some.inj h0
  obtain ⟨q_0, q_1⟩ := Prod.mk.inj h0
  subst q_0
  subst q_1
  subst hQ
  exact w_iret K hr0 X wC_fstx hsz dX7_readingWith_34
-- X7_breaksIn
def b_X7_breaksIn_83  (P_83 : RowsS) : Option (Int32 × RowsS) :=
  some ((-1), P_83)
def l_X7_breaksIn_28 (n : Nat) (a1 : Int32) (a2 : Int32) (z28_3 : Int32) (Pz_28 : RowsS) : Option ((Int32 × RowsS) ⊕ (RowsS ⊕ (Int32 × RowsS))) :=
  if 60 < z28_3 then
    some (.inr (.inl Pz_28))
  else
    lt (f_X3_pressureAt (Pz_28 1) a1) fun x6 =>
    lt (x6 + a2) fun x7 =>
    lt (f_X3_press (Pz_28 1) a1 (jmax 0 (jmin 99999 x7))) fun x8 =>
    lt (va_up Pz_28 1 x8) fun Pv9 =>
    ob (f_X3_settle n (Pv9 1)) fun x10 =>
    lt (va_up Pv9 1 x10.2) fun Pv11 =>
    if x10.1 ≤ 0 then
      lt (z28_3 + 1) fun x13 =>
      some (.inl (x13, Pv11))
    else
      some (.inr (.inr (z28_3, Pv11)))
def f_X7_breaksIn (n : Nat) (P : RowsS) (G : GlbS) (a1 : Int32) (a2 : Int32) : Option (Int32 × RowsS) :=
  ob (f_X7_requirePoint P G a1) fun x1 =>
  ob (f_X7_requireWithin a2 (-9999) 9999) fun x2 =>
  ob (f_X3_copyFrom n (P 1) (P 0)) fun x3 =>
  lt (va_up P 1 x3) fun Pv4 =>
  ob (wloop (fun t => l_X7_breaksIn_28 n a1 a2 t.1 t.2) n (1, Pv4)) (fun t => match t with | .inl t => b_X7_breaksIn_83 t | .inr r => some r)
abbrev rm_X7_breaksIn : Room := { frames := 6, cells := 0, slots := 0, locals := 166 }
set_option maxRecDepth 100000 in
set_option maxHeartbeats 4000000 in
theorem m_X7_breaksIn (l : Launch) (D : va_G) (ca : Nat → ClassId) (ar : Nat → Nat → Nat) (ag : Nat → Nat) (z : ZG) (n : Nat) (P : RowsS) (G : GlbS) (xs : va_W) (a1 : Int32) (a2 : Int32) (res : Int32) (P' : RowsS) (h0 : f_X7_breaksIn n P G a1 a2 = some (res, P')) (sz : Nat) : Met l yX7_breaksIn (ws_ yX7_breaksIn cX7_breaksIn 5 (some .int)) rm_X7_breaksIn (PCz z D ca (wC ar ag ca P G ++ xs) sz [.ref (ag 0), .int a1, .int a2]) (QMw D (wC ar ag ca P G ++ xs) (wC ar ag ca (P') G ++ xs) sz (some (.int res))) 0 0 (AL (wC ar ag ca P G ++ xs) sz) := by
  refine met_z (by decide +kernel) (Nat.le_of_ble_eq_true rfl) (fun p e s m args below meth c K hr0 hZ X hsz ls hl => ?_)
  have K : MC D ca p s m args meth c cX7_breaksIn 5 RX7 := K
  have hx := K.1
  have hb := K.2.1
  have hl : lv_has ls 5 [(0, .ref (ag 0)), (1, .int a1), (2, .int a2)] := hl
  generalize hQ : MQ below _ args s 0 0 _ = Q
  unfold f_X7_breaksIn at h0
  suffices Z : ∀ (H : Heap) (locs : List Loc) (X : RW D (wC ar ag ca P G ++ xs) s.heap H locs), W p l e rm_X7_breaksIn s m args below meth c H locs 0 0 Q (F0 m 0 ls []) from Z _ _ X
  intro H locs X
  have J83 : ∀ (P_83 : RowsS) (H : Heap) (locs : List Loc) (X : RW D (wC ar ag ca P_83 G ++ xs) s.heap H locs) (ls : Array Slot) (hl : lv_has ls 5 []) (h0 : b_X7_breaksIn_83 P_83 = some (res, P')), W p l e rm_X7_breaksIn s m args below meth c H locs 0 0 Q (F0 m 83 ls []) := by
    intro P_83 H locs X ls hl h0
    unfold b_X7_breaksIn_83 at h0
    refine lv_iconst (v := (-1)) hx hb dX7_breaksIn_83 (by decide) ?_
    have h0 := Option.some.inj h0
    obtain ⟨q_0, q_1⟩ := Prod.mk.inj h0
    subst q_0
    subst q_1
    subst hQ
    exact w_iret K hr0 X wC_fstx hsz dX7_breaksIn_84
  refine lv_aload_n hx hb dX7_breaksIn_0 rfl (lv_at hl 0 rfl) ?_
  refine lv_iload_n hx hb dX7_breaksIn_1 rfl (lv_at hl 1 rfl) ?_
  obtain ⟨x1, ex1, h0⟩ := ob_out h0
  have kx1 := m_X7_requirePoint l D ca ar ag z P G xs a1  ex1 H.size
  refine z_callV K hZ X wC_fstx wC_fstx kx1 hl.1 1 q851 q853 q9 q87 q854 hv_X7_requirePoint ⟨⟨Nat.le_of_ble_eq_true rfl, Nat.le_of_ble_eq_true rfl⟩, rfl, rfl⟩ (z_recvw K X (pl_glb (k := 0) (by decide)) rfl rfl) rfl rfl (Nat.le_of_ble_eq_true rfl) dX7_breaksIn_2 ⟨Nat.le_of_ble_eq_true rfl, Nat.le_of_ble_eq_true rfl⟩ rfl (fun H locs X => ?_)
  refine lv_iload_n hx hb dX7_breaksIn_5 rfl (lv_at hl 2 rfl) ?_
  refine lv_sipush (v := (-9999)) hx hb dX7_breaksIn_6 (by decide) ?_
  refine lv_sipush (v := 9999) hx hb dX7_breaksIn_9 (by decide) ?_
  obtain ⟨x2, ex2, h0⟩ := ob_out h0
  have kx2 := m_X7_requireWithin l D ca z (wC ar ag ca P G ++ xs) a2 (-9999) 9999  ex2 H.size
  refine z_callS K hZ X wC_fstx wC_fstx kx2 hl.1 3 q557 q558 q87 q559 hs_X7_requireWithin ⟨⟨Nat.le_of_ble_eq_true rfl, Nat.le_of_ble_eq_true rfl⟩, rfl, rfl⟩ rfl rfl (Nat.le_of_ble_eq_true rfl) dX7_breaksIn_12 ⟨Nat.le_of_ble_eq_true rfl, Nat.le_of_ble_eq_true rfl⟩ rfl (fun H locs X => ?_)
  refine lv_aload_n hx hb dX7_breaksIn_15 rfl (lv_at hl 0 rfl) ?_
  refine g_objr K X 1 (by decide) rfl q362 dX7_breaksIn_16 ?_
  refine lv_aload_n hx hb dX7_breaksIn_19 rfl (lv_at hl 0 rfl) ?_
  refine g_objr K X 0 (by decide) rfl q361 dX7_breaksIn_20 ?_
  obtain ⟨x3, ex3, h0⟩ := ob_out h0
  obtain ⟨Pv4, ePv4, h0⟩ := lt_out h0
  have kx3 := mC_X3_copyFrom l D ca ar ag n P 1 G xs (by decide) 0 (by decide) (by decide) x3 ex3 H.size
  rw [← ePv4] at kx3
  refine w_callV0 K X wC_fstx kx3 hl.1 1 q540 q517 q518 q88 q519 hv_X3_copyFrom ⟨⟨Nat.le_of_ble_eq_true rfl, Nat.le_of_ble_eq_true rfl⟩, rfl, rfl⟩ (pl_rowo (by decide)) rfl rfl rfl rfl (Nat.le_of_ble_eq_true rfl) dX7_breaksIn_23 ⟨Nat.le_of_ble_eq_true rfl, Nat.le_of_ble_eq_true rfl⟩ rfl (fun H locs X => ?_)
  refine lv_iconst (v := 1) hx hb dX7_breaksIn_26 (by decide) ?_
  refine lv_istore_n (lv' := [(3, .int 1), (0, .ref (ag 0)), (1, .int a1), (2, .int a2)]) hx hb dX7_breaksIn_27 rfl hl (by decide) rfl (fun ls hl => ?_)
  obtain ⟨e_1, he1, h0⟩ := ob_out h0
  have K28 : ∀ (k : Nat) (z28_3 : Int32) (Pz_28 : RowsS) (H : Heap) (locs : List Loc) (X : RW D (wC ar ag ca Pz_28 G ++ xs) s.heap H locs) (ls : Array Slot) (hl : lv_has ls 5 [(0, .ref (ag 0)), (1, .int a1), (2, .int a2), (3, .int z28_3)]) (hw : wloop (fun t => l_X7_breaksIn_28 n a1 a2 t.1 t.2) k (z28_3, Pz_28) = some e_1), W p l e rm_X7_breaksIn s m args below meth c H locs 0 0 Q (F0 m 28 ls []) := by
    intro k
    induction k with
    | zero => intro z28_3 Pz_28 H locs X ls hl hw; exact (wloop_0 hw).elim
    | succ k ih1 =>
      intro z28_3 Pz_28 H locs X ls hl hw
      obtain ⟨x_1, h1, hx1⟩ := wloop_out hw
      have h1 : l_X7_breaksIn_28 n a1 a2 z28_3 Pz_28 = some x_1 := h1
      unfold l_X7_breaksIn_28 at h1
      refine lv_iload_n hx hb dX7_breaksIn_28 rfl (lv_at hl 3 rfl) ?_
      refine lv_bipush (v := 60) hx hb dX7_breaksIn_29 (by decide) ?_
      refine lv_icmp_gt (tgt := 83) hx hb dX7_breaksIn_31 (by decide) (fun c5 => ?_) (fun c5 => ?_)
      · have h1 := if_t c5 h1
        have q1 := wl_r h1 hx1
        exact J83 Pz_28 H locs X ls (lv_sub hl [] rfl) (by rw [q1] at h0; exact h0)
      · have h1 := if_f c5 h1
        refine lv_aload_n hx hb dX7_breaksIn_34 rfl (lv_at hl 0 rfl) ?_
        refine g_objr K X 1 (by decide) rfl q362 dX7_breaksIn_35 ?_
        refine lv_iload_n hx hb dX7_breaksIn_38 rfl (lv_at hl 1 rfl) ?_
        obtain ⟨x6, ex6, h1⟩ := lt_out h1
        have kx6 := mC_X3_pressureAt l D ca ar ag Pz_28 1 G xs (by decide) a1 x6 ex6.symm H.size
        refine w_callV0 K X wC_fstx kx6 hl.1 1 q856 q437 q438 q88 q439 hv_X3_pressureAt ⟨⟨Nat.le_of_ble_eq_true rfl, Nat.le_of_ble_eq_true rfl⟩, rfl, rfl⟩ (pl_rowo (by decide)) rfl rfl rfl rfl (Nat.le_of_ble_eq_true rfl) dX7_breaksIn_39 ⟨Nat.le_of_ble_eq_true rfl, Nat.le_of_ble_eq_true rfl⟩ rfl (fun H locs X => ?_)
        refine lv_iload_n hx hb dX7_breaksIn_42 rfl (lv_at hl 2 rfl) ?_
        refine lv_iadd hx hb dX7_breaksIn_43 ?_
        obtain ⟨x7, ex7, h1⟩ := lt_out h1
        refine w_int ex7 ?_
        refine lv_istore (lv' := [(4, .int x7), (0, .ref (ag 0)), (1, .int a1), (2, .int a2), (3, .int z28_3)]) hx hb dX7_breaksIn_44 hl (by decide) rfl (fun ls hl => ?_)
        refine lv_aload_n hx hb dX7_breaksIn_46 rfl (lv_at hl 1 rfl) ?_
        refine g_objr K X 1 (by decide) rfl q362 dX7_breaksIn_47 ?_
        refine lv_iload_n hx hb dX7_breaksIn_50 rfl (lv_at hl 2 rfl) ?_
        refine lv_iconst (v := 0) hx hb dX7_breaksIn_51 (by decide) ?_
        refine lv_ldc hx hb K.2.2.2.1 (K.2.2.2.2.1 _ q935) dX7_breaksIn_52 ?_
        refine lv_iload hx hb dX7_breaksIn_54 (lv_at hl 0 rfl) ?_
        refine w_mmin K hl.1 q936 q479 q102 q480 (Nat.le_of_ble_eq_true rfl) (Nat.le_of_ble_eq_true rfl) (Nat.le_of_ble_eq_true rfl) (Nat.le_of_ble_eq_true rfl) dX7_breaksIn_56 ?_
        refine w_mmax K hl.1 q937 q938 q102 q939 (Nat.le_of_ble_eq_true rfl) (Nat.le_of_ble_eq_true rfl) (Nat.le_of_ble_eq_true rfl) (Nat.le_of_ble_eq_true rfl) dX7_breaksIn_59 ?_
        obtain ⟨x8, ex8, h1⟩ := lt_out h1
        obtain ⟨Pv9, ePv9, h1⟩ := lt_out h1
        have kx8 := mC_X3_press l D ca ar ag Pz_28 1 G xs (by decide) a1 (jmax 0 (jmin 99999 x7)) x8 ex8.symm H.size
        rw [← ePv9] at kx8
        refine w_callV0 K X wC_fstx kx8 hl.1 2 q951 q756 q757 q88 q758 hv_X3_press ⟨⟨Nat.le_of_ble_eq_true rfl, Nat.le_of_ble_eq_true rfl⟩, rfl, rfl⟩ (pl_rowo (by decide)) rfl rfl rfl rfl (Nat.le_of_ble_eq_true rfl) dX7_breaksIn_62 ⟨Nat.le_of_ble_eq_true rfl, Nat.le_of_ble_eq_true rfl⟩ rfl (fun H locs X => ?_)
        refine lv_aload_n hx hb dX7_breaksIn_65 rfl (lv_at hl 1 rfl) ?_
        refine g_objr K X 1 (by decide) rfl q362 dX7_breaksIn_66 ?_
        obtain ⟨x10, ex10, h1⟩ := ob_out h1
        obtain ⟨Pv11, ePv11, h1⟩ := lt_out h1
        have kx10 := mC_X3_settle l D ca ar ag n Pv9 1 G xs (by decide) x10.1 x10.2 ex10 H.size
        rw [← ePv11] at kx10
        refine w_callV0 K X wC_fstx kx10 hl.1 0 q763 q764 q765 q88 q766 hv_X3_settle ⟨⟨Nat.le_of_ble_eq_true rfl, Nat.le_of_ble_eq_true rfl⟩, rfl, rfl⟩ (pl_rowo (by decide)) rfl rfl rfl rfl (Nat.le_of_ble_eq_true rfl) dX7_breaksIn_69 ⟨Nat.le_of_ble_eq_true rfl, Nat.le_of_ble_eq_true rfl⟩ rfl (fun H locs X => ?_)
        refine lv_if_le (tgt := 77) hx hb dX7_breaksIn_72 (by decide) (fun c12 => ?_) (fun c12 => ?_)
        · have h1 := if_t c12 h1
          obtain ⟨x13, ex13, h1⟩ := lt_out h1
          refine lv_iinc (v := x13) (lv' := [(3, .int x13), (4, .int x7), (0, .ref (ag 0)), (1, .int a1), (2, .int a2)]) hx hb dX7_breaksIn_77 hl (k := 4) rfl (by rw [ex13]; rfl) (by decide) rfl (fun ls hl => ?_)
          refine lv_goto (tgt := 28) hx hb dX7_breaksIn_80 (by decide) ?_
          exact ih1 x13 Pv11 H locs X ls (lv_sub hl [2, 3, 4, 0] rfl) (wl_l h1 hx1)
        · have h1 := if_f c12 h1
          refine lv_iload_n hx hb dX7_breaksIn_75 rfl (lv_at hl 4 rfl) ?_
          have q1 := wl_r h1 hx1
          rw [q1] at h0
          have h0 : some (z28_3, Pv11) = some (res, P') := h0
          have h0 := Option.some.inj h0
          obtain ⟨q_0, q_1⟩ := Prod.mk.inj h0
          subst q_0
          subst q_1
          subst hQ
          exact w_iret K hr0 X wC_fstx hsz dX7_breaksIn_76
  exact K28 n 1 Pv4 H locs X ls (lv_sub hl [1, 2, 3, 0] rfl) he1
-- X7_bestSlant
def b_X7_bestSlant_107  (y107_l2 : Int32) (P_107 : RowsS) : Option (Int32 × RowsS) :=
  some (y107_l2, P_107)
def b_X7_bestSlant_101  (y101_l2 : Int32) (y101_l3 : Int32) (y101_l4 : Int32) (P_101 : RowsS) : Option ((Int32 × Int32 × Int32 × RowsS) ⊕ (Int32 × RowsS)) :=
  lt (y101_l4 + 50) fun x14 =>
  some (.inl (y101_l2, y101_l3, x14, P_101))
def l_X7_bestSlant_29 (n : Nat) (a1 : Int32) (z29_2 : Int32) (z29_3 : Int32) (z29_4 : Int32) (Pz_29 : RowsS) : Option ((Int32 × Int32 × Int32 × RowsS) ⊕ (Int32 × RowsS)) :=
  if 1000 < z29_4 then
    some (.inr (z29_2, Pz_29))
  else
    ob (f_X3_copyFrom n (Pz_29 1) (Pz_29 0)) fun x6 =>
    lt (va_up Pz_29 1 x6) fun Pv7 =>
    lt (f_X3_tubeAt (Pv7 1) a1) fun x8 =>
    lt (x8) fun j9 =>
    lt (va_up Pv7 1 (si (Pv7 1) (j9 + 5) 3 z29_4)) fun Pv10 =>
    ob (f_X3_settle n (Pv10 1)) fun x11 =>
    lt (va_up Pv10 1 x11.2) fun Pv12 =>
    if x11.1 = 0 then
      lt (f_X3_tubeAt (Pv12 1) a1) fun x15 =>
      lt (x15) fun j16 =>
      if ((Pv12 1).1 (j16 + 5) 9) < z29_3 then
        b_X7_bestSlant_101 z29_2 z29_3 z29_4 Pv12
      else
        lt (f_X3_tubeAt (Pv12 1) a1) fun x18 =>
        lt (x18) fun j19 =>
        lt ((Pv12 1).1 (j19 + 5) 9) fun x20 =>
        b_X7_bestSlant_101 z29_4 x20 z29_4 Pv12
    else
      b_X7_bestSlant_101 z29_2 z29_3 z29_4 Pv12
def f_X7_bestSlant (n : Nat) (P : RowsS) (G : GlbS) (a1 : Int32) : Option (Int32 × RowsS) :=
  ob (f_X7_requireTube P G a1) fun x1 =>
  lt (f_X3_tubeAt (P 0) a1) fun x2 =>
  lt (x2) fun j3 =>
  if ((P 0).1 (j3 + 5) 6) = 0 then
    ob (wloop (fun t => l_X7_bestSlant_29 n a1 t.1 t.2.1 t.2.2.1 t.2.2.2) n ((-1), (-1), 50, P)) (fun t => b_X7_bestSlant_107 t.1 t.2)
  else
    some ((-1), P)
abbrev rm_X7_bestSlant : Room := { frames := 6, cells := 0, slots := 0, locals := 166 }
set_option maxRecDepth 100000 in
set_option maxHeartbeats 4000000 in
theorem m_X7_bestSlant (l : Launch) (D : va_G) (ca : Nat → ClassId) (ar : Nat → Nat → Nat) (ag : Nat → Nat) (z : ZG) (n : Nat) (P : RowsS) (G : GlbS) (xs : va_W) (a1 : Int32) (res : Int32) (P' : RowsS) (h0 : f_X7_bestSlant n P G a1 = some (res, P')) (sz : Nat) : Met l yX7_bestSlant (ws_ yX7_bestSlant cX7_bestSlant 5 (some .int)) rm_X7_bestSlant (PCz z D ca (wC ar ag ca P G ++ xs) sz [.ref (ag 0), .int a1]) (QMw D (wC ar ag ca P G ++ xs) (wC ar ag ca (P') G ++ xs) sz (some (.int res))) 0 0 (AL (wC ar ag ca P G ++ xs) sz) := by
  refine met_z (by decide +kernel) (Nat.le_of_ble_eq_true rfl) (fun p e s m args below meth c K hr0 hZ X hsz ls hl => ?_)
  have K : MC D ca p s m args meth c cX7_bestSlant 5 RX7 := K
  have hx := K.1
  have hb := K.2.1
  have hl : lv_has ls 5 [(0, .ref (ag 0)), (1, .int a1)] := hl
  generalize hQ : MQ below _ args s 0 0 _ = Q
  unfold f_X7_bestSlant at h0
  suffices Z : ∀ (H : Heap) (locs : List Loc) (X : RW D (wC ar ag ca P G ++ xs) s.heap H locs), W p l e rm_X7_bestSlant s m args below meth c H locs 0 0 Q (F0 m 0 ls []) from Z _ _ X
  intro H locs X
  have J107 : ∀ (y107_l2 : Int32) (P_107 : RowsS) (H : Heap) (locs : List Loc) (X : RW D (wC ar ag ca P_107 G ++ xs) s.heap H locs) (ls : Array Slot) (hl : lv_has ls 5 [(2, .int y107_l2)]) (h0 : b_X7_bestSlant_107 y107_l2 P_107 = some (res, P')), W p l e rm_X7_bestSlant s m args below meth c H locs 0 0 Q (F0 m 107 ls []) := by
    intro y107_l2 P_107 H locs X ls hl h0
    unfold b_X7_bestSlant_107 at h0
    refine lv_iload_n hx hb dX7_bestSlant_107 rfl (lv_at hl 0 rfl) ?_
    have h0 := Option.some.inj h0
    obtain ⟨q_0, q_1⟩ := Prod.mk.inj h0
    subst q_0
    subst q_1
    subst hQ
    exact w_iret K hr0 X wC_fstx hsz dX7_bestSlant_108
  refine lv_aload_n hx hb dX7_bestSlant_0 rfl (lv_at hl 0 rfl) ?_
  refine lv_iload_n hx hb dX7_bestSlant_1 rfl (lv_at hl 1 rfl) ?_
  obtain ⟨x1, ex1, h0⟩ := ob_out h0
  have kx1 := m_X7_requireTube l D ca ar ag z P G xs a1  ex1 H.size
  refine z_callV K hZ X wC_fstx wC_fstx kx1 hl.1 1 q886 q888 q10 q87 q889 hv_X7_requireTube ⟨⟨Nat.le_of_ble_eq_true rfl, Nat.le_of_ble_eq_true rfl⟩, rfl, rfl⟩ (z_recvw K X (pl_glb (k := 0) (by decide)) rfl rfl) rfl rfl (Nat.le_of_ble_eq_true rfl) dX7_bestSlant_2 ⟨Nat.le_of_ble_eq_true rfl, Nat.le_of_ble_eq_true rfl⟩ rfl (fun H locs X => ?_)
  refine lv_aload_n hx hb dX7_bestSlant_5 rfl (lv_at hl 0 rfl) ?_
  refine g_objr K X 0 (by decide) rfl q361 dX7_bestSlant_6 ?_
  refine lv_iload_n hx hb dX7_bestSlant_9 rfl (lv_at hl 1 rfl) ?_
  obtain ⟨x2, ex2, h0⟩ := lt_out h0
  have kx2 := mC_X3_tubeAt l D ca ar ag P 0 G xs (by decide) a1 x2 ex2.symm H.size
  refine w_callV0 K X wC_fstx kx2 hl.1 1 q403 q404 q405 q88 q406 hv_X3_tubeAt ⟨⟨Nat.le_of_ble_eq_true rfl, Nat.le_of_ble_eq_true rfl⟩, rfl, rfl⟩ (pl_rowo (by decide)) rfl rfl rfl rfl (Nat.le_of_ble_eq_true rfl) dX7_bestSlant_10 ⟨Nat.le_of_ble_eq_true rfl, Nat.le_of_ble_eq_true rfl⟩ rfl (fun H locs X => ?_)
  obtain ⟨j3, ej3, h0⟩ := lt_out h0
  rw [← ej3]
  have hj3 : j3 < 13 := by rw [ej3]; exact lt_X3_tubeAt ex2
  refine g_tube K X (by decide) hj3 rfl 6 (by decide) q194 dX7_bestSlant_13 ?_
  refine lv_if_eq (tgt := 21) hx hb dX7_bestSlant_16 (by decide) (fun c4 => ?_) (fun c4 => ?_)
  · have h0 := if_t c4 h0
    refine lv_iconst (v := (-1)) hx hb dX7_bestSlant_21 (by decide) ?_
    refine lv_istore_n (lv' := [(2, .int (-1)), (0, .ref (ag 0)), (1, .int a1)]) hx hb dX7_bestSlant_22 rfl hl (by decide) rfl (fun ls hl => ?_)
    refine lv_iconst (v := (-1)) hx hb dX7_bestSlant_23 (by decide) ?_
    refine lv_istore_n (lv' := [(3, .int (-1)), (2, .int (-1)), (0, .ref (ag 0)), (1, .int a1)]) hx hb dX7_bestSlant_24 rfl hl (by decide) rfl (fun ls hl => ?_)
    refine lv_bipush (v := 50) hx hb dX7_bestSlant_25 (by decide) ?_
    refine lv_istore (lv' := [(4, .int 50), (3, .int (-1)), (2, .int (-1)), (0, .ref (ag 0)), (1, .int a1)]) hx hb dX7_bestSlant_27 hl (by decide) rfl (fun ls hl => ?_)
    obtain ⟨e_1, he1, h0⟩ := ob_out h0
    have K29 : ∀ (k : Nat) (z29_2 : Int32) (z29_3 : Int32) (z29_4 : Int32) (Pz_29 : RowsS) (H : Heap) (locs : List Loc) (X : RW D (wC ar ag ca Pz_29 G ++ xs) s.heap H locs) (ls : Array Slot) (hl : lv_has ls 5 [(0, .ref (ag 0)), (1, .int a1), (2, .int z29_2), (3, .int z29_3), (4, .int z29_4)]) (hw : wloop (fun t => l_X7_bestSlant_29 n a1 t.1 t.2.1 t.2.2.1 t.2.2.2) k (z29_2, z29_3, z29_4, Pz_29) = some e_1), W p l e rm_X7_bestSlant s m args below meth c H locs 0 0 Q (F0 m 29 ls []) := by
      intro k
      induction k with
      | zero => intro z29_2 z29_3 z29_4 Pz_29 H locs X ls hl hw; exact (wloop_0 hw).elim
      | succ k ih1 =>
        intro z29_2 z29_3 z29_4 Pz_29 H locs X ls hl hw
        obtain ⟨x_1, h1, hx1⟩ := wloop_out hw
        have h1 : l_X7_bestSlant_29 n a1 z29_2 z29_3 z29_4 Pz_29 = some x_1 := h1
        unfold l_X7_bestSlant_29 at h1
        have J101 : ∀ (y101_l2 : Int32) (y101_l3 : Int32) (y101_l4 : Int32) (P_101 : RowsS) (H : Heap) (locs : List Loc) (X : RW D (wC ar ag ca P_101 G ++ xs) s.heap H locs) (ls : Array Slot) (hl : lv_has ls 5 [(0, .ref (ag 0)), (1, .int a1), (2, .int y101_l2), (3, .int y101_l3), (4, .int y101_l4)]) (h1 : b_X7_bestSlant_101 y101_l2 y101_l3 y101_l4 P_101 = some x_1), W p l e rm_X7_bestSlant s m args below meth c H locs 0 0 Q (F0 m 101 ls []) := by
          intro y101_l2 y101_l3 y101_l4 P_101 H locs X ls hl h1
          unfold b_X7_bestSlant_101 at h1
          obtain ⟨x14, ex14, h1⟩ := lt_out h1
          refine lv_iinc (v := x14) (lv' := [(4, .int x14), (0, .ref (ag 0)), (1, .int a1), (2, .int y101_l2), (3, .int y101_l3)]) hx hb dX7_bestSlant_101 hl (k := 4) rfl (by rw [ex14]; rfl) (by decide) rfl (fun ls hl => ?_)
          refine lv_goto (tgt := 29) hx hb dX7_bestSlant_104 (by decide) ?_
          exact ih1 y101_l2 y101_l3 x14 P_101 H locs X ls (lv_sub hl [1, 2, 3, 4, 0] rfl) (wl_l h1 hx1)
        refine lv_iload hx hb dX7_bestSlant_29 (lv_at hl 4 rfl) ?_
        refine lv_sipush (v := 1000) hx hb dX7_bestSlant_31 (by decide) ?_
        refine lv_icmp_gt (tgt := 107) hx hb dX7_bestSlant_34 (by decide) (fun c5 => ?_) (fun c5 => ?_)
        · have h1 := if_t c5 h1
          have q1 := wl_r h1 hx1
          exact J107 z29_2 Pz_29 H locs X ls (lv_sub hl [2] rfl) (by rw [q1] at h0; exact h0)
        · have h1 := if_f c5 h1
          refine lv_aload_n hx hb dX7_bestSlant_37 rfl (lv_at hl 0 rfl) ?_
          refine g_objr K X 1 (by decide) rfl q362 dX7_bestSlant_38 ?_
          refine lv_aload_n hx hb dX7_bestSlant_41 rfl (lv_at hl 0 rfl) ?_
          refine g_objr K X 0 (by decide) rfl q361 dX7_bestSlant_42 ?_
          obtain ⟨x6, ex6, h1⟩ := ob_out h1
          obtain ⟨Pv7, ePv7, h1⟩ := lt_out h1
          have kx6 := mC_X3_copyFrom l D ca ar ag n Pz_29 1 G xs (by decide) 0 (by decide) (by decide) x6 ex6 H.size
          rw [← ePv7] at kx6
          refine w_callV0 K X wC_fstx kx6 hl.1 1 q540 q517 q518 q88 q519 hv_X3_copyFrom ⟨⟨Nat.le_of_ble_eq_true rfl, Nat.le_of_ble_eq_true rfl⟩, rfl, rfl⟩ (pl_rowo (by decide)) rfl rfl rfl rfl (Nat.le_of_ble_eq_true rfl) dX7_bestSlant_45 ⟨Nat.le_of_ble_eq_true rfl, Nat.le_of_ble_eq_true rfl⟩ rfl (fun H locs X => ?_)
          refine lv_aload_n hx hb dX7_bestSlant_48 rfl (lv_at hl 0 rfl) ?_
          refine g_objr K X 1 (by decide) rfl q362 dX7_bestSlant_49 ?_
          refine lv_iload_n hx hb dX7_bestSlant_52 rfl (lv_at hl 1 rfl) ?_
          obtain ⟨x8, ex8, h1⟩ := lt_out h1
          have kx8 := mC_X3_tubeAt l D ca ar ag Pv7 1 G xs (by decide) a1 x8 ex8.symm H.size
          refine w_callV0 K X wC_fstx kx8 hl.1 1 q403 q404 q405 q88 q406 hv_X3_tubeAt ⟨⟨Nat.le_of_ble_eq_true rfl, Nat.le_of_ble_eq_true rfl⟩, rfl, rfl⟩ (pl_rowo (by decide)) rfl rfl rfl rfl (Nat.le_of_ble_eq_true rfl) dX7_bestSlant_53 ⟨Nat.le_of_ble_eq_true rfl, Nat.le_of_ble_eq_true rfl⟩ rfl (fun H locs X => ?_)
          obtain ⟨j9, ej9, h1⟩ := lt_out h1
          rw [← ej9]
          have hj9 : j9 < 13 := by rw [ej9]; exact lt_X3_tubeAt ex8
          refine lv_iload hx hb dX7_bestSlant_56 (lv_at hl 4 rfl) ?_
          obtain ⟨Pv10, ePv10, h1⟩ := lt_out h1
          refine p_tube K X (by decide) hj9 3 (by decide) ePv10.symm q186 dX7_bestSlant_58 (fun H locs X => ?_)
          refine lv_aload_n hx hb dX7_bestSlant_61 rfl (lv_at hl 0 rfl) ?_
          refine g_objr K X 1 (by decide) rfl q362 dX7_bestSlant_62 ?_
          obtain ⟨x11, ex11, h1⟩ := ob_out h1
          obtain ⟨Pv12, ePv12, h1⟩ := lt_out h1
          have kx11 := mC_X3_settle l D ca ar ag n Pv10 1 G xs (by decide) x11.1 x11.2 ex11 H.size
          rw [← ePv12] at kx11
          refine w_callV0 K X wC_fstx kx11 hl.1 0 q763 q764 q765 q88 q766 hv_X3_settle ⟨⟨Nat.le_of_ble_eq_true rfl, Nat.le_of_ble_eq_true rfl⟩, rfl, rfl⟩ (pl_rowo (by decide)) rfl rfl rfl rfl (Nat.le_of_ble_eq_true rfl) dX7_bestSlant_65 ⟨Nat.le_of_ble_eq_true rfl, Nat.le_of_ble_eq_true rfl⟩ rfl (fun H locs X => ?_)
          refine lv_if_ne (tgt := 101) hx hb dX7_bestSlant_68 (by decide) (fun c13 => ?_) (fun c13 => ?_)
          · have h1 := if_f c13 h1
            exact J101 z29_2 z29_3 z29_4 Pv12 H locs X ls (lv_sub hl [0, 1, 2, 3, 4] rfl) h1
          · have h1 := if_t c13 h1
            refine lv_aload_n hx hb dX7_bestSlant_71 rfl (lv_at hl 0 rfl) ?_
            refine g_objr K X 1 (by decide) rfl q362 dX7_bestSlant_72 ?_
            refine lv_iload_n hx hb dX7_bestSlant_75 rfl (lv_at hl 1 rfl) ?_
            obtain ⟨x15, ex15, h1⟩ := lt_out h1
            have kx15 := mC_X3_tubeAt l D ca ar ag Pv12 1 G xs (by decide) a1 x15 ex15.symm H.size
            refine w_callV0 K X wC_fstx kx15 hl.1 1 q403 q404 q405 q88 q406 hv_X3_tubeAt ⟨⟨Nat.le_of_ble_eq_true rfl, Nat.le_of_ble_eq_true rfl⟩, rfl, rfl⟩ (pl_rowo (by decide)) rfl rfl rfl rfl (Nat.le_of_ble_eq_true rfl) dX7_bestSlant_76 ⟨Nat.le_of_ble_eq_true rfl, Nat.le_of_ble_eq_true rfl⟩ rfl (fun H locs X => ?_)
            obtain ⟨j16, ej16, h1⟩ := lt_out h1
            rw [← ej16]
            have hj16 : j16 < 13 := by rw [ej16]; exact lt_X3_tubeAt ex15
            refine g_tube K X (by decide) hj16 rfl 9 (by decide) q202 dX7_bestSlant_79 ?_
            refine lv_iload_n hx hb dX7_bestSlant_82 rfl (lv_at hl 3 rfl) ?_
            refine lv_icmp_lt (tgt := 101) hx hb dX7_bestSlant_83 (by decide) (fun c17 => ?_) (fun c17 => ?_)
            · have h1 := if_t c17 h1
              exact J101 z29_2 z29_3 z29_4 Pv12 H locs X ls (lv_sub hl [0, 1, 2, 3, 4] rfl) h1
            · have h1 := if_f c17 h1
              refine lv_iload hx hb dX7_bestSlant_86 (lv_at hl 4 rfl) ?_
              refine lv_istore_n (lv' := [(2, .int z29_4), (0, .ref (ag 0)), (1, .int a1), (3, .int z29_3), (4, .int z29_4)]) hx hb dX7_bestSlant_88 rfl hl (by decide) rfl (fun ls hl => ?_)
              refine lv_aload_n hx hb dX7_bestSlant_89 rfl (lv_at hl 1 rfl) ?_
              refine g_objr K X 1 (by decide) rfl q362 dX7_bestSlant_90 ?_
              refine lv_iload_n hx hb dX7_bestSlant_93 rfl (lv_at hl 2 rfl) ?_
              obtain ⟨x18, ex18, h1⟩ := lt_out h1
              have kx18 := mC_X3_tubeAt l D ca ar ag Pv12 1 G xs (by decide) a1 x18 ex18.symm H.size
              refine w_callV0 K X wC_fstx kx18 hl.1 1 q403 q404 q405 q88 q406 hv_X3_tubeAt ⟨⟨Nat.le_of_ble_eq_true rfl, Nat.le_of_ble_eq_true rfl⟩, rfl, rfl⟩ (pl_rowo (by decide)) rfl rfl rfl rfl (Nat.le_of_ble_eq_true rfl) dX7_bestSlant_94 ⟨Nat.le_of_ble_eq_true rfl, Nat.le_of_ble_eq_true rfl⟩ rfl (fun H locs X => ?_)
              obtain ⟨j19, ej19, h1⟩ := lt_out h1
              rw [← ej19]
              have hj19 : j19 < 13 := by rw [ej19]; exact lt_X3_tubeAt ex18
              refine g_tube K X (by decide) hj19 rfl 9 (by decide) q202 dX7_bestSlant_97 ?_
              obtain ⟨x20, ex20, h1⟩ := lt_out h1
              refine w_int ex20 ?_
              refine lv_istore_n (lv' := [(3, .int x20), (2, .int z29_4), (0, .ref (ag 0)), (1, .int a1), (4, .int z29_4)]) hx hb dX7_bestSlant_100 rfl hl (by decide) rfl (fun ls hl => ?_)
              exact J101 z29_4 x20 z29_4 Pv12 H locs X ls (lv_sub hl [2, 3, 1, 0, 4] rfl) h1
    exact K29 n (-1) (-1) 50 P H locs X ls (lv_sub hl [3, 4, 2, 1, 0] rfl) he1
  · have h0 := if_f c4 h0
    refine lv_iconst (v := (-1)) hx hb dX7_bestSlant_19 (by decide) ?_
    have h0 := Option.some.inj h0
    obtain ⟨q_0, q_1⟩ := Prod.mk.inj h0
    subst q_0
    subst q_1
    subst hQ
    exact w_iret K hr0 X wC_fstx hsz dX7_bestSlant_20
-- X7_lostWith
def f_X7_lostWith (n : Nat) (P : RowsS) (G : GlbS) (a1 : Int32) : Option (Int32 × RowsS) :=
  ob (f_X7_requireWithin a1 0 99999) fun x1 =>
  ob (f_X3_copyFrom n (P 1) (P 0)) fun x2 =>
  lt (va_up P 1 x2) fun Pv3 =>
  lt (va_up Pv3 1 (si (Pv3 1) 0 1 a1)) fun Pv4 =>
  ob (f_X3_settle n (Pv4 1)) fun x5 =>
  lt (va_up Pv4 1 x5.2) fun Pv6 =>
  some (x5.1, Pv6)
abbrev rm_X7_lostWith : Room := { frames := 6, cells := 0, slots := 0, locals := 166 }
set_option maxRecDepth 100000 in
set_option maxHeartbeats 4000000 in
theorem m_X7_lostWith (l : Launch) (D : va_G) (ca : Nat → ClassId) (ar : Nat → Nat → Nat) (ag : Nat → Nat) (z : ZG) (n : Nat) (P : RowsS) (G : GlbS) (xs : va_W) (a1 : Int32) (res : Int32) (P' : RowsS) (h0 : f_X7_lostWith n P G a1 = some (res, P')) (sz : Nat) : Met l yX7_lostWith (ws_ yX7_lostWith cX7_lostWith 2 (some .int)) rm_X7_lostWith (PCz z D ca (wC ar ag ca P G ++ xs) sz [.ref (ag 0), .int a1]) (QMw D (wC ar ag ca P G ++ xs) (wC ar ag ca (P') G ++ xs) sz (some (.int res))) 0 0 (AL (wC ar ag ca P G ++ xs) sz) := by
  refine met_z (by decide +kernel) (Nat.le_of_ble_eq_true rfl) (fun p e s m args below meth c K hr0 hZ X hsz ls hl => ?_)
  have K : MC D ca p s m args meth c cX7_lostWith 2 RX7 := K
  have hx := K.1
  have hb := K.2.1
  have hl : lv_has ls 2 [(0, .ref (ag 0)), (1, .int a1)] := hl
  generalize hQ : MQ below _ args s 0 0 _ = Q
  unfold f_X7_lostWith at h0
  suffices Z : ∀ (H : Heap) (locs : List Loc) (X : RW D (wC ar ag ca P G ++ xs) s.heap H locs), W p l e rm_X7_lostWith s m args below meth c H locs 0 0 Q (F0 m 0 ls []) from Z _ _ X
  intro H locs X
  refine lv_iload_n hx hb dX7_lostWith_0 rfl (lv_at hl 1 rfl) ?_
  refine lv_iconst (v := 0) hx hb dX7_lostWith_1 (by decide) ?_
  refine lv_ldc hx hb K.2.2.2.1 (K.2.2.2.2.1 _ q935) dX7_lostWith_2 ?_
  obtain ⟨x1, ex1, h0⟩ := ob_out h0
  have kx1 := m_X7_requireWithin l D ca z (wC ar ag ca P G ++ xs) a1 0 99999  ex1 H.size
  refine z_callS K hZ X wC_fstx wC_fstx kx1 hl.1 3 q557 q558 q87 q559 hs_X7_requireWithin ⟨⟨Nat.le_of_ble_eq_true rfl, Nat.le_of_ble_eq_true rfl⟩, rfl, rfl⟩ rfl rfl (Nat.le_of_ble_eq_true rfl) dX7_lostWith_4 ⟨Nat.le_of_ble_eq_true rfl, Nat.le_of_ble_eq_true rfl⟩ rfl (fun H locs X => ?_)
  refine lv_aload_n hx hb dX7_lostWith_7 rfl (lv_at hl 0 rfl) ?_
  refine g_objr K X 1 (by decide) rfl q362 dX7_lostWith_8 ?_
  refine lv_aload_n hx hb dX7_lostWith_11 rfl (lv_at hl 0 rfl) ?_
  refine g_objr K X 0 (by decide) rfl q361 dX7_lostWith_12 ?_
  obtain ⟨x2, ex2, h0⟩ := ob_out h0
  obtain ⟨Pv3, ePv3, h0⟩ := lt_out h0
  have kx2 := mC_X3_copyFrom l D ca ar ag n P 1 G xs (by decide) 0 (by decide) (by decide) x2 ex2 H.size
  rw [← ePv3] at kx2
  refine w_callV0 K X wC_fstx kx2 hl.1 1 q540 q517 q518 q88 q519 hv_X3_copyFrom ⟨⟨Nat.le_of_ble_eq_true rfl, Nat.le_of_ble_eq_true rfl⟩, rfl, rfl⟩ (pl_rowo (by decide)) rfl rfl rfl rfl (Nat.le_of_ble_eq_true rfl) dX7_lostWith_15 ⟨Nat.le_of_ble_eq_true rfl, Nat.le_of_ble_eq_true rfl⟩ rfl (fun H locs X => ?_)
  refine lv_aload_n hx hb dX7_lostWith_18 rfl (lv_at hl 0 rfl) ?_
  refine g_objr K X 1 (by decide) rfl q362 dX7_lostWith_19 ?_
  refine lv_iload_n hx hb dX7_lostWith_22 rfl (lv_at hl 1 rfl) ?_
  obtain ⟨Pv4, ePv4, h0⟩ := lt_out h0
  refine p_rowi K X (by decide) 1 (by decide) ePv4.symm q228 dX7_lostWith_23 (fun H locs X => ?_)
  refine lv_aload_n hx hb dX7_lostWith_26 rfl (lv_at hl 0 rfl) ?_
  refine g_objr K X 1 (by decide) rfl q362 dX7_lostWith_27 ?_
  obtain ⟨x5, ex5, h0⟩ := ob_out h0
  obtain ⟨Pv6, ePv6, h0⟩ := lt_out h0
  have kx5 := mC_X3_settle l D ca ar ag n Pv4 1 G xs (by decide) x5.1 x5.2 ex5 H.size
  rw [← ePv6] at kx5
  refine w_callV0 K X wC_fstx kx5 hl.1 0 q763 q764 q765 q88 q766 hv_X3_settle ⟨⟨Nat.le_of_ble_eq_true rfl, Nat.le_of_ble_eq_true rfl⟩, rfl, rfl⟩ (pl_rowo (by decide)) rfl rfl rfl rfl (Nat.le_of_ble_eq_true rfl) dX7_lostWith_30 ⟨Nat.le_of_ble_eq_true rfl, Nat.le_of_ble_eq_true rfl⟩ rfl (fun H locs X => ?_)
  have h0 := Option.some.inj h0
  obtain ⟨q_0, q_1⟩ := Prod.mk.inj h0
  subst q_0
  subst q_1
  subst hQ
  exact w_iret K hr0 X wC_fstx hsz dX7_lostWith_33
-- X7_meanReading
def b_X7_meanReading_52  (y52_l1 : Int32) (y52_l2 : Int32) : Option UInt64 :=
  if y52_l2 = 0 then
    some FP.dconst0
  else
    if (FP.ddiv (FP.i2d y52_l1) (FP.i2d y52_l2)) &&& 0x7fffffffffffffff ≤ 0x7ff0000000000000 then
      some (FP.ddiv (FP.i2d y52_l1) (FP.i2d y52_l2))
    else none
def b_X7_meanReading_46  (y46_l1 : Int32) (y46_l2 : Int32) (y46_l3 : Int32) : Option ((Int32 × Int32 × Int32) ⊕ (Int32 × Int32)) :=
  lt (y46_l3 + 1) fun x7 =>
  some (.inl (y46_l1, y46_l2, x7))
def l_X7_meanReading_6 (P : RowsS) (z6_1 : Int32) (z6_2 : Int32) (z6_3 : Int32) : Option ((Int32 × Int32 × Int32) ⊕ (Int32 × Int32)) :=
  if ((P 0).1 0 2) ≤ z6_3 then
    some (.inr (z6_1, z6_2))
  else
    lt (f_X3_tubeAt (P 0) z6_3) fun x4 =>
    lt (x4) fun j5 =>
    if ((P 0).1 (j5 + 5) 6) = 0 then
      lt (f_X6_shownReading ((P 0).1 (j5 + 5))) fun x8 =>
      lt (z6_1 + x8) fun x9 =>
      lt (z6_2 + 1) fun x10 =>
      b_X7_meanReading_46 x9 x10 z6_3
    else
      b_X7_meanReading_46 z6_1 z6_2 z6_3
def f_X7_meanReading (n : Nat) (P : RowsS) (G : GlbS) : Option UInt64 :=
  ob (wloop (fun t => l_X7_meanReading_6 P t.1 t.2.1 t.2.2) n (0, 0, 0)) (fun t => b_X7_meanReading_52 t.1 t.2)
abbrev rm_X7_meanReading : Room := { frames := 1, cells := 0, slots := 0, locals := 21 }
set_option maxRecDepth 100000 in
set_option maxHeartbeats 4000000 in
theorem m_X7_meanReading (l : Launch) (D : va_G) (ca : Nat → ClassId) (ar : Nat → Nat → Nat) (ag : Nat → Nat) (n : Nat) (P : RowsS) (G : GlbS) (xs : va_W) (res : UInt64) (h0 : f_X7_meanReading n P G = some res) (sz : Nat) : Met l yX7_meanReading (ws_ yX7_meanReading cX7_meanReading 5 (some .double)) rm_X7_meanReading (PCw D ca (wC ar ag ca P G ++ xs) sz [.ref (ag 0)]) (QMw D (wC ar ag ca P G ++ xs) (wC ar ag ca P G ++ xs) sz (some (.double res))) 0 0 (AL (wC ar ag ca P G ++ xs) sz) := by
  refine met_of (by decide) (Nat.le_of_ble_eq_true rfl) (fun p e s m args below meth c K hr0 X hsz ls hl => ?_)
  have K : MC D ca p s m args meth c cX7_meanReading 5 RX7 := K
  have hx := K.1
  have hb := K.2.1
  have hl : lv_has ls 5 [(0, .ref (ag 0))] := hl
  generalize hQ : MQ below _ args s 0 0 _ = Q
  unfold f_X7_meanReading at h0
  suffices Z : ∀ (H : Heap) (locs : List Loc) (X : RW D (wC ar ag ca P G ++ xs) s.heap H locs), W p l e rm_X7_meanReading s m args below meth c H locs 0 0 Q (F0 m 0 ls []) from Z _ _ X
  intro H locs X
  have J52 : ∀ (y52_l1 : Int32) (y52_l2 : Int32) (H : Heap) (locs : List Loc) (X : RW D (wC ar ag ca P G ++ xs) s.heap H locs) (ls : Array Slot) (hl : lv_has ls 5 [(1, .int y52_l1), (2, .int y52_l2)]) (h0 : b_X7_meanReading_52 y52_l1 y52_l2 = some res), W p l e rm_X7_meanReading s m args below meth c H locs 0 0 Q (F0 m 52 ls []) := by
    intro y52_l1 y52_l2 H locs X ls hl h0
    unfold b_X7_meanReading_52 at h0
    refine lv_iload_n hx hb dX7_meanReading_52 rfl (lv_at hl 1 rfl) ?_
    refine lv_if_ne (tgt := 60) hx hb dX7_meanReading_53 (by decide) (fun c2 => ?_) (fun c2 => ?_)
    · have h0 := if_f c2 h0
      refine lv_iload_n hx hb dX7_meanReading_60 rfl (lv_at hl 0 rfl) ?_
      refine lv_i2d hx hb dX7_meanReading_61 ?_
      refine lv_iload_n hx hb dX7_meanReading_62 rfl (lv_at hl 1 rfl) ?_
      refine lv_i2d hx hb dX7_meanReading_63 ?_
      obtain ⟨c3, h0⟩ := if_o h0
      refine lv_ddiv hx hb dX7_meanReading_64 c3 ?_
      have h0 := Option.some.inj h0
      subst h0
      subst hQ
      exact w_dret K hr0 X wC_fstx hsz dX7_meanReading_65
    · have h0 := if_t c2 h0
      refine lv_dconst0 hx hb dX7_meanReading_56 ?_
      refine lv_goto (tgt := 65) hx hb dX7_meanReading_57 (by decide) ?_
      have h0 := Option.some.inj h0
      subst h0
      subst hQ
      exact w_dret K hr0 X wC_fstx hsz dX7_meanReading_65
  refine lv_iconst (v := 0) hx hb dX7_meanReading_0 (by decide) ?_
  refine lv_istore_n (lv' := [(1, .int 0), (0, .ref (ag 0))]) hx hb dX7_meanReading_1 rfl hl (by decide) rfl (fun ls hl => ?_)
  refine lv_iconst (v := 0) hx hb dX7_meanReading_2 (by decide) ?_
  refine lv_istore_n (lv' := [(2, .int 0), (1, .int 0), (0, .ref (ag 0))]) hx hb dX7_meanReading_3 rfl hl (by decide) rfl (fun ls hl => ?_)
  refine lv_iconst (v := 0) hx hb dX7_meanReading_4 (by decide) ?_
  refine lv_istore_n (lv' := [(3, .int 0), (2, .int 0), (1, .int 0), (0, .ref (ag 0))]) hx hb dX7_meanReading_5 rfl hl (by decide) rfl (fun ls hl => ?_)
  obtain ⟨e_1, he1, h0⟩ := ob_out h0
  have K6 : ∀ (k : Nat) (z6_1 : Int32) (z6_2 : Int32) (z6_3 : Int32) (H : Heap) (locs : List Loc) (X : RW D (wC ar ag ca P G ++ xs) s.heap H locs) (ls : Array Slot) (hl : lv_has ls 5 [(0, .ref (ag 0)), (1, .int z6_1), (2, .int z6_2), (3, .int z6_3)]) (hw : wloop (fun t => l_X7_meanReading_6 P t.1 t.2.1 t.2.2) k (z6_1, z6_2, z6_3) = some e_1), W p l e rm_X7_meanReading s m args below meth c H locs 0 0 Q (F0 m 6 ls []) := by
    intro k
    induction k with
    | zero => intro z6_1 z6_2 z6_3 H locs X ls hl hw; exact (wloop_0 hw).elim
    | succ k ih1 =>
      intro z6_1 z6_2 z6_3 H locs X ls hl hw
      obtain ⟨x_1, h1, hx1⟩ := wloop_out hw
      have h1 : l_X7_meanReading_6 P z6_1 z6_2 z6_3 = some x_1 := h1
      unfold l_X7_meanReading_6 at h1
      have J46 : ∀ (y46_l1 : Int32) (y46_l2 : Int32) (y46_l3 : Int32) (H : Heap) (locs : List Loc) (X : RW D (wC ar ag ca P G ++ xs) s.heap H locs) (ls : Array Slot) (hl : lv_has ls 5 [(0, .ref (ag 0)), (1, .int y46_l1), (2, .int y46_l2), (3, .int y46_l3)]) (h1 : b_X7_meanReading_46 y46_l1 y46_l2 y46_l3 = some x_1), W p l e rm_X7_meanReading s m args below meth c H locs 0 0 Q (F0 m 46 ls []) := by
        intro y46_l1 y46_l2 y46_l3 H locs X ls hl h1
        unfold b_X7_meanReading_46 at h1
        obtain ⟨x7, ex7, h1⟩ := lt_out h1
        refine lv_iinc (v := x7) (lv' := [(3, .int x7), (0, .ref (ag 0)), (1, .int y46_l1), (2, .int y46_l2)]) hx hb dX7_meanReading_46 hl (k := 3) rfl (by rw [ex7]; rfl) (by decide) rfl (fun ls hl => ?_)
        refine lv_goto (tgt := 6) hx hb dX7_meanReading_49 (by decide) ?_
        exact ih1 y46_l1 y46_l2 x7 H locs X ls (lv_sub hl [1, 2, 3, 0] rfl) (wl_l h1 hx1)
      refine lv_iload_n hx hb dX7_meanReading_6 rfl (lv_at hl 3 rfl) ?_
      refine lv_aload_n hx hb dX7_meanReading_7 rfl (lv_at hl 0 rfl) ?_
      refine g_objr K X 0 (by decide) rfl q361 dX7_meanReading_8 ?_
      refine g_rowi K X (by decide) rfl 2 (by decide) q231 dX7_meanReading_11 ?_
      refine lv_icmp_ge (tgt := 52) hx hb dX7_meanReading_14 (by decide) (fun c1 => ?_) (fun c1 => ?_)
      · have h1 := if_t c1 h1
        have q1 := wl_r h1 hx1
        exact J52 z6_1 z6_2 H locs X ls (lv_sub hl [1, 2] rfl) (by rw [q1] at h0; exact h0)
      · have h1 := if_f c1 h1
        refine lv_aload_n hx hb dX7_meanReading_17 rfl (lv_at hl 0 rfl) ?_
        refine g_objr K X 0 (by decide) rfl q361 dX7_meanReading_18 ?_
        refine lv_iload_n hx hb dX7_meanReading_21 rfl (lv_at hl 3 rfl) ?_
        obtain ⟨x4, ex4, h1⟩ := lt_out h1
        have kx4 := mC_X3_tubeAt l D ca ar ag P 0 G xs (by decide) z6_3 x4 ex4.symm H.size
        refine w_callV0 K X wC_fstx kx4 hl.1 1 q403 q404 q405 q88 q406 hv_X3_tubeAt ⟨⟨Nat.le_of_ble_eq_true rfl, Nat.le_of_ble_eq_true rfl⟩, rfl, rfl⟩ (pl_rowo (by decide)) rfl rfl rfl rfl (Nat.le_of_ble_eq_true rfl) dX7_meanReading_22 ⟨Nat.le_of_ble_eq_true rfl, Nat.le_of_ble_eq_true rfl⟩ rfl (fun H locs X => ?_)
        obtain ⟨j5, ej5, h1⟩ := lt_out h1
        rw [← ej5]
        have hj5 : j5 < 13 := by rw [ej5]; exact lt_X3_tubeAt ex4
        refine lv_astore (lv' := [(4, .ref (ar 0 (j5 + 5))), (0, .ref (ag 0)), (1, .int z6_1), (2, .int z6_2), (3, .int z6_3)]) hx hb dX7_meanReading_25 hl (by decide) rfl (fun ls hl => ?_)
        refine lv_aload hx hb dX7_meanReading_27 (lv_at hl 0 rfl) ?_
        refine g_tube K X (by decide) hj5 rfl 6 (by decide) q194 dX7_meanReading_29 ?_
        refine lv_if_ne (tgt := 46) hx hb dX7_meanReading_32 (by decide) (fun c6 => ?_) (fun c6 => ?_)
        · have h1 := if_f c6 h1
          exact J46 z6_1 z6_2 z6_3 H locs X ls (lv_sub hl [1, 2, 3, 4] rfl) h1
        · have h1 := if_t c6 h1
          refine lv_iload_n hx hb dX7_meanReading_35 rfl (lv_at hl 2 rfl) ?_
          refine lv_aload hx hb dX7_meanReading_36 (lv_at hl 0 rfl) ?_
          obtain ⟨x8, ex8, h1⟩ := lt_out h1
          have kx8 := mC_X6_shownReading l D ca ar ag P 0 j5 G xs (by decide) hj5 x8 ex8.symm H.size
          refine w_callV0 K X wC_fstx kx8 hl.1 0 q447 q448 q449 q90 q450 hv_X6_shownReading ⟨⟨Nat.le_of_ble_eq_true rfl, Nat.le_of_ble_eq_true rfl⟩, rfl, rfl⟩ (pl_tube (by decide) hj5) rfl rfl rfl rfl (Nat.le_of_ble_eq_true rfl) dX7_meanReading_38 ⟨Nat.le_of_ble_eq_true rfl, Nat.le_of_ble_eq_true rfl⟩ rfl (fun H locs X => ?_)
          refine lv_iadd hx hb dX7_meanReading_41 ?_
          obtain ⟨x9, ex9, h1⟩ := lt_out h1
          refine w_int ex9 ?_
          refine lv_istore_n (lv' := [(1, .int x9), (4, .ref (ar 0 (j5 + 5))), (0, .ref (ag 0)), (2, .int z6_2), (3, .int z6_3)]) hx hb dX7_meanReading_42 rfl hl (by decide) rfl (fun ls hl => ?_)
          obtain ⟨x10, ex10, h1⟩ := lt_out h1
          refine lv_iinc (v := x10) (lv' := [(2, .int x10), (1, .int x9), (4, .ref (ar 0 (j5 + 5))), (0, .ref (ag 0)), (3, .int z6_3)]) hx hb dX7_meanReading_43 hl (k := 3) rfl (by rw [ex10]; rfl) (by decide) rfl (fun ls hl => ?_)
          exact J46 x9 x10 z6_3 H locs X ls (lv_sub hl [3, 1, 0, 4] rfl) h1
  exact K6 n 0 0 0 H locs X ls (lv_sub hl [3, 2, 1, 0] rfl) he1
-- X7_wholeShare
def f_X7_wholeShare (n : Nat) (P : RowsS) (G : GlbS) : Option UInt32 :=
  lt ((P 0).1 0 2) fun x1 =>
  if x1 = 0 then
    some FP.fconst0
  else
    ob (f_X3_countInState n (P 0) 0) fun x3 =>
    if (FP.fdiv (FP.i2f x3) (FP.i2f x1)) &&& 0x7fffffff ≤ 0x7f800000 then
      some (FP.fdiv (FP.i2f x3) (FP.i2f x1))
    else none
abbrev rm_X7_wholeShare : Room := { frames := 2, cells := 0, slots := 0, locals := 44 }
set_option maxRecDepth 100000 in
set_option maxHeartbeats 4000000 in
theorem m_X7_wholeShare (l : Launch) (D : va_G) (ca : Nat → ClassId) (ar : Nat → Nat → Nat) (ag : Nat → Nat) (n : Nat) (P : RowsS) (G : GlbS) (xs : va_W) (res : UInt32) (h0 : f_X7_wholeShare n P G = some res) (sz : Nat) : Met l yX7_wholeShare (ws_ yX7_wholeShare cX7_wholeShare 2 (some .float)) rm_X7_wholeShare (PCw D ca (wC ar ag ca P G ++ xs) sz [.ref (ag 0)]) (QMw D (wC ar ag ca P G ++ xs) (wC ar ag ca P G ++ xs) sz (some (.float res))) 0 0 (AL (wC ar ag ca P G ++ xs) sz) := by
  refine met_of (by decide) (Nat.le_of_ble_eq_true rfl) (fun p e s m args below meth c K hr0 X hsz ls hl => ?_)
  have K : MC D ca p s m args meth c cX7_wholeShare 2 RX7 := K
  have hx := K.1
  have hb := K.2.1
  have hl : lv_has ls 2 [(0, .ref (ag 0))] := hl
  generalize hQ : MQ below _ args s 0 0 _ = Q
  unfold f_X7_wholeShare at h0
  suffices Z : ∀ (H : Heap) (locs : List Loc) (X : RW D (wC ar ag ca P G ++ xs) s.heap H locs), W p l e rm_X7_wholeShare s m args below meth c H locs 0 0 Q (F0 m 0 ls []) from Z _ _ X
  intro H locs X
  refine lv_aload_n hx hb dX7_wholeShare_0 rfl (lv_at hl 0 rfl) ?_
  refine g_objr K X 0 (by decide) rfl q361 dX7_wholeShare_1 ?_
  refine g_rowi K X (by decide) rfl 2 (by decide) q231 dX7_wholeShare_4 ?_
  obtain ⟨x1, ex1, h0⟩ := lt_out h0
  refine w_int ex1 ?_
  refine lv_istore_n (lv' := [(1, .int x1), (0, .ref (ag 0))]) hx hb dX7_wholeShare_7 rfl hl (by decide) rfl (fun ls hl => ?_)
  refine lv_iload_n hx hb dX7_wholeShare_8 rfl (lv_at hl 0 rfl) ?_
  refine lv_if_ne (tgt := 16) hx hb dX7_wholeShare_9 (by decide) (fun c2 => ?_) (fun c2 => ?_)
  · have h0 := if_f c2 h0
    refine lv_aload_n hx hb dX7_wholeShare_16 rfl (lv_at hl 1 rfl) ?_
    refine g_objr K X 0 (by decide) rfl q361 dX7_wholeShare_17 ?_
    refine lv_iconst (v := 0) hx hb dX7_wholeShare_20 (by decide) ?_
    obtain ⟨x3, ex3, h0⟩ := ob_out h0
    have kx3 := mC_X3_countInState l D ca ar ag n P 0 G xs (by decide) 0 x3 ex3 H.size
    refine w_callV0 K X wC_fstx kx3 hl.1 1 q455 q456 q457 q88 q458 hv_X3_countInState ⟨⟨Nat.le_of_ble_eq_true rfl, Nat.le_of_ble_eq_true rfl⟩, rfl, rfl⟩ (pl_rowo (by decide)) rfl rfl rfl rfl (Nat.le_of_ble_eq_true rfl) dX7_wholeShare_21 ⟨Nat.le_of_ble_eq_true rfl, Nat.le_of_ble_eq_true rfl⟩ rfl (fun H locs X => ?_)
    refine lv_i2f hx hb dX7_wholeShare_24 ?_
    refine lv_iload_n hx hb dX7_wholeShare_25 rfl (lv_at hl 0 rfl) ?_
    refine lv_i2f hx hb dX7_wholeShare_26 ?_
    obtain ⟨c4, h0⟩ := if_o h0
    refine lv_fdiv hx hb dX7_wholeShare_27 c4 ?_
    have h0 := Option.some.inj h0
    subst h0
    subst hQ
    exact w_fret K hr0 X wC_fstx hsz dX7_wholeShare_28
  · have h0 := if_t c2 h0
    refine lv_fconst0 hx hb dX7_wholeShare_12 ?_
    refine lv_goto (tgt := 28) hx hb dX7_wholeShare_13 (by decide) ?_
    have h0 := Option.some.inj h0
    subst h0
    subst hQ
    exact w_fret K hr0 X wC_fstx hsz dX7_wholeShare_28
-- X7_setPressure
def f_X7_setPressure (n : Nat) (P : RowsS) (G : GlbS) (a1 : Int32) (a2 : Int32) : Option (Int32 × RowsS × GlbS) :=
  ob (f_X7_requirePoint P G a1) fun x1 =>
  ob (f_X7_requireWithin a2 0 99999) fun x2 =>
  ob (f_X0_keep n P G 0) fun x3 =>
  lt (x3.1) fun Pv4 =>
  lt (x3.2) fun Gv5 =>
  lt (f_X3_press (Pv4 0) a1 a2) fun x6 =>
  lt (va_up Pv4 0 x6) fun Pv7 =>
  ob (f_X3_settle n (Pv7 0)) fun x8 =>
  lt (va_up Pv7 0 x8.2) fun Pv9 =>
  some (x8.1, Pv9, Gv5)
abbrev rm_X7_setPressure : Room := { frames := 6, cells := 0, slots := 0, locals := 166 }
set_option maxRecDepth 100000 in
set_option maxHeartbeats 4000000 in
theorem m_X7_setPressure (l : Launch) (D : va_G) (ca : Nat → ClassId) (ar : Nat → Nat → Nat) (ag : Nat → Nat) (z : ZG) (n : Nat) (P : RowsS) (G : GlbS) (xs : va_W) (a1 : Int32) (a2 : Int32) (res : Int32) (P' : RowsS) (G' : GlbS) (h0 : f_X7_setPressure n P G a1 a2 = some (res, P', G')) (sz : Nat) : Met l yX7_setPressure (ws_ yX7_setPressure cX7_setPressure 3 (some .int)) rm_X7_setPressure (PCz z D ca (wC ar ag ca P G ++ xs) sz [.ref (ag 0), .int a1, .int a2]) (QMw D (wC ar ag ca P G ++ xs) (wC ar ag ca (P') (G') ++ xs) sz (some (.int res))) 0 0 (AL (wC ar ag ca P G ++ xs) sz) := by
  refine met_z (by decide +kernel) (Nat.le_of_ble_eq_true rfl) (fun p e s m args below meth c K hr0 hZ X hsz ls hl => ?_)
  have K : MC D ca p s m args meth c cX7_setPressure 3 RX7 := K
  have hx := K.1
  have hb := K.2.1
  have hl : lv_has ls 3 [(0, .ref (ag 0)), (1, .int a1), (2, .int a2)] := hl
  generalize hQ : MQ below _ args s 0 0 _ = Q
  unfold f_X7_setPressure at h0
  suffices Z : ∀ (H : Heap) (locs : List Loc) (X : RW D (wC ar ag ca P G ++ xs) s.heap H locs), W p l e rm_X7_setPressure s m args below meth c H locs 0 0 Q (F0 m 0 ls []) from Z _ _ X
  intro H locs X
  refine lv_aload_n hx hb dX7_setPressure_0 rfl (lv_at hl 0 rfl) ?_
  refine lv_iload_n hx hb dX7_setPressure_1 rfl (lv_at hl 1 rfl) ?_
  obtain ⟨x1, ex1, h0⟩ := ob_out h0
  have kx1 := m_X7_requirePoint l D ca ar ag z P G xs a1  ex1 H.size
  refine z_callV K hZ X wC_fstx wC_fstx kx1 hl.1 1 q851 q853 q9 q87 q854 hv_X7_requirePoint ⟨⟨Nat.le_of_ble_eq_true rfl, Nat.le_of_ble_eq_true rfl⟩, rfl, rfl⟩ (z_recvw K X (pl_glb (k := 0) (by decide)) rfl rfl) rfl rfl (Nat.le_of_ble_eq_true rfl) dX7_setPressure_2 ⟨Nat.le_of_ble_eq_true rfl, Nat.le_of_ble_eq_true rfl⟩ rfl (fun H locs X => ?_)
  refine lv_iload_n hx hb dX7_setPressure_5 rfl (lv_at hl 2 rfl) ?_
  refine lv_iconst (v := 0) hx hb dX7_setPressure_6 (by decide) ?_
  refine lv_ldc hx hb K.2.2.2.1 (K.2.2.2.2.1 _ q935) dX7_setPressure_7 ?_
  obtain ⟨x2, ex2, h0⟩ := ob_out h0
  have kx2 := m_X7_requireWithin l D ca z (wC ar ag ca P G ++ xs) a2 0 99999  ex2 H.size
  refine z_callS K hZ X wC_fstx wC_fstx kx2 hl.1 3 q557 q558 q87 q559 hs_X7_requireWithin ⟨⟨Nat.le_of_ble_eq_true rfl, Nat.le_of_ble_eq_true rfl⟩, rfl, rfl⟩ rfl rfl (Nat.le_of_ble_eq_true rfl) dX7_setPressure_9 ⟨Nat.le_of_ble_eq_true rfl, Nat.le_of_ble_eq_true rfl⟩ rfl (fun H locs X => ?_)
  refine lv_aload_n hx hb dX7_setPressure_12 rfl (lv_at hl 0 rfl) ?_
  refine g_objr K X 3 (by decide) rfl q364 dX7_setPressure_13 ?_
  refine lv_aload_n hx hb dX7_setPressure_16 rfl (lv_at hl 0 rfl) ?_
  refine g_objr K X 0 (by decide) rfl q361 dX7_setPressure_17 ?_
  obtain ⟨x3, ex3, h0⟩ := ob_out h0
  obtain ⟨Pv4, ePv4, h0⟩ := lt_out h0
  obtain ⟨Gv5, eGv5, h0⟩ := lt_out h0
  have kx3 := m_X0_keep l D ca ar ag n P G xs 0 (by decide) x3.1 x3.2 ex3 H.size
  rw [← ePv4, ← eGv5] at kx3
  refine w_callV0 K X wC_fstx kx3 hl.1 1 q987 q988 q989 q91 q990 hv_X0_keep ⟨⟨Nat.le_of_ble_eq_true rfl, Nat.le_of_ble_eq_true rfl⟩, rfl, rfl⟩ (pl_glb (k := 1) (by decide)) rfl rfl rfl rfl (Nat.le_of_ble_eq_true rfl) dX7_setPressure_20 ⟨Nat.le_of_ble_eq_true rfl, Nat.le_of_ble_eq_true rfl⟩ rfl (fun H locs X => ?_)
  refine lv_aload_n hx hb dX7_setPressure_23 rfl (lv_at hl 0 rfl) ?_
  refine g_objr K X 0 (by decide) rfl q361 dX7_setPressure_24 ?_
  refine lv_iload_n hx hb dX7_setPressure_27 rfl (lv_at hl 1 rfl) ?_
  refine lv_iload_n hx hb dX7_setPressure_28 rfl (lv_at hl 2 rfl) ?_
  obtain ⟨x6, ex6, h0⟩ := lt_out h0
  obtain ⟨Pv7, ePv7, h0⟩ := lt_out h0
  have kx6 := mC_X3_press l D ca ar ag Pv4 0 Gv5 xs (by decide) a1 a2 x6 ex6.symm H.size
  rw [← ePv7] at kx6
  refine w_callV0 K X wC_fstx kx6 hl.1 2 q951 q756 q757 q88 q758 hv_X3_press ⟨⟨Nat.le_of_ble_eq_true rfl, Nat.le_of_ble_eq_true rfl⟩, rfl, rfl⟩ (pl_rowo (by decide)) rfl rfl rfl rfl (Nat.le_of_ble_eq_true rfl) dX7_setPressure_29 ⟨Nat.le_of_ble_eq_true rfl, Nat.le_of_ble_eq_true rfl⟩ rfl (fun H locs X => ?_)
  refine lv_aload_n hx hb dX7_setPressure_32 rfl (lv_at hl 0 rfl) ?_
  refine g_objr K X 0 (by decide) rfl q361 dX7_setPressure_33 ?_
  obtain ⟨x8, ex8, h0⟩ := ob_out h0
  obtain ⟨Pv9, ePv9, h0⟩ := lt_out h0
  have kx8 := mC_X3_settle l D ca ar ag n Pv7 0 Gv5 xs (by decide) x8.1 x8.2 ex8 H.size
  rw [← ePv9] at kx8
  refine w_callV0 K X wC_fstx kx8 hl.1 0 q763 q764 q765 q88 q766 hv_X3_settle ⟨⟨Nat.le_of_ble_eq_true rfl, Nat.le_of_ble_eq_true rfl⟩, rfl, rfl⟩ (pl_rowo (by decide)) rfl rfl rfl rfl (Nat.le_of_ble_eq_true rfl) dX7_setPressure_36 ⟨Nat.le_of_ble_eq_true rfl, Nat.le_of_ble_eq_true rfl⟩ rfl (fun H locs X => ?_)
  have h0 := Option.some.inj h0
  obtain ⟨q_0, h0⟩ := Prod.mk.inj h0
  obtain ⟨q_1, q_2⟩ := Prod.mk.inj h0
  subst q_0
  subst q_1
  subst q_2
  subst hQ
  exact w_iret K hr0 X wC_fstx hsz dX7_setPressure_39
-- X7_setReference
def f_X7_setReference (n : Nat) (P : RowsS) (G : GlbS) (a1 : Int32) : Option (Int32 × RowsS × GlbS) :=
  ob (f_X7_requireWithin a1 0 99999) fun x1 =>
  ob (f_X0_keep n P G 0) fun x2 =>
  lt (x2.1) fun Pv3 =>
  lt (x2.2) fun Gv4 =>
  lt (va_up Pv3 0 (si (Pv3 0) 0 1 a1)) fun Pv5 =>
  ob (f_X3_settle n (Pv5 0)) fun x6 =>
  lt (va_up Pv5 0 x6.2) fun Pv7 =>
  some (x6.1, Pv7, Gv4)
abbrev rm_X7_setReference : Room := { frames := 6, cells := 0, slots := 0, locals := 166 }
set_option maxRecDepth 100000 in
set_option maxHeartbeats 4000000 in
theorem m_X7_setReference (l : Launch) (D : va_G) (ca : Nat → ClassId) (ar : Nat → Nat → Nat) (ag : Nat → Nat) (z : ZG) (n : Nat) (P : RowsS) (G : GlbS) (xs : va_W) (a1 : Int32) (res : Int32) (P' : RowsS) (G' : GlbS) (h0 : f_X7_setReference n P G a1 = some (res, P', G')) (sz : Nat) : Met l yX7_setReference (ws_ yX7_setReference cX7_setReference 2 (some .int)) rm_X7_setReference (PCz z D ca (wC ar ag ca P G ++ xs) sz [.ref (ag 0), .int a1]) (QMw D (wC ar ag ca P G ++ xs) (wC ar ag ca (P') (G') ++ xs) sz (some (.int res))) 0 0 (AL (wC ar ag ca P G ++ xs) sz) := by
  refine met_z (by decide +kernel) (Nat.le_of_ble_eq_true rfl) (fun p e s m args below meth c K hr0 hZ X hsz ls hl => ?_)
  have K : MC D ca p s m args meth c cX7_setReference 2 RX7 := K
  have hx := K.1
  have hb := K.2.1
  have hl : lv_has ls 2 [(0, .ref (ag 0)), (1, .int a1)] := hl
  generalize hQ : MQ below _ args s 0 0 _ = Q
  unfold f_X7_setReference at h0
  suffices Z : ∀ (H : Heap) (locs : List Loc) (X : RW D (wC ar ag ca P G ++ xs) s.heap H locs), W p l e rm_X7_setReference s m args below meth c H locs 0 0 Q (F0 m 0 ls []) from Z _ _ X
  intro H locs X
  refine lv_iload_n hx hb dX7_setReference_0 rfl (lv_at hl 1 rfl) ?_
  refine lv_iconst (v := 0) hx hb dX7_setReference_1 (by decide) ?_
  refine lv_ldc hx hb K.2.2.2.1 (K.2.2.2.2.1 _ q935) dX7_setReference_2 ?_
  obtain ⟨x1, ex1, h0⟩ := ob_out h0
  have kx1 := m_X7_requireWithin l D ca z (wC ar ag ca P G ++ xs) a1 0 99999  ex1 H.size
  refine z_callS K hZ X wC_fstx wC_fstx kx1 hl.1 3 q557 q558 q87 q559 hs_X7_requireWithin ⟨⟨Nat.le_of_ble_eq_true rfl, Nat.le_of_ble_eq_true rfl⟩, rfl, rfl⟩ rfl rfl (Nat.le_of_ble_eq_true rfl) dX7_setReference_4 ⟨Nat.le_of_ble_eq_true rfl, Nat.le_of_ble_eq_true rfl⟩ rfl (fun H locs X => ?_)
  refine lv_aload_n hx hb dX7_setReference_7 rfl (lv_at hl 0 rfl) ?_
  refine g_objr K X 3 (by decide) rfl q364 dX7_setReference_8 ?_
  refine lv_aload_n hx hb dX7_setReference_11 rfl (lv_at hl 0 rfl) ?_
  refine g_objr K X 0 (by decide) rfl q361 dX7_setReference_12 ?_
  obtain ⟨x2, ex2, h0⟩ := ob_out h0
  obtain ⟨Pv3, ePv3, h0⟩ := lt_out h0
  obtain ⟨Gv4, eGv4, h0⟩ := lt_out h0
  have kx2 := m_X0_keep l D ca ar ag n P G xs 0 (by decide) x2.1 x2.2 ex2 H.size
  rw [← ePv3, ← eGv4] at kx2
  refine w_callV0 K X wC_fstx kx2 hl.1 1 q987 q988 q989 q91 q990 hv_X0_keep ⟨⟨Nat.le_of_ble_eq_true rfl, Nat.le_of_ble_eq_true rfl⟩, rfl, rfl⟩ (pl_glb (k := 1) (by decide)) rfl rfl rfl rfl (Nat.le_of_ble_eq_true rfl) dX7_setReference_15 ⟨Nat.le_of_ble_eq_true rfl, Nat.le_of_ble_eq_true rfl⟩ rfl (fun H locs X => ?_)
  refine lv_aload_n hx hb dX7_setReference_18 rfl (lv_at hl 0 rfl) ?_
  refine g_objr K X 0 (by decide) rfl q361 dX7_setReference_19 ?_
  refine lv_iload_n hx hb dX7_setReference_22 rfl (lv_at hl 1 rfl) ?_
  obtain ⟨Pv5, ePv5, h0⟩ := lt_out h0
  refine p_rowi K X (by decide) 1 (by decide) ePv5.symm q228 dX7_setReference_23 (fun H locs X => ?_)
  refine lv_aload_n hx hb dX7_setReference_26 rfl (lv_at hl 0 rfl) ?_
  refine g_objr K X 0 (by decide) rfl q361 dX7_setReference_27 ?_
  obtain ⟨x6, ex6, h0⟩ := ob_out h0
  obtain ⟨Pv7, ePv7, h0⟩ := lt_out h0
  have kx6 := mC_X3_settle l D ca ar ag n Pv5 0 Gv4 xs (by decide) x6.1 x6.2 ex6 H.size
  rw [← ePv7] at kx6
  refine w_callV0 K X wC_fstx kx6 hl.1 0 q763 q764 q765 q88 q766 hv_X3_settle ⟨⟨Nat.le_of_ble_eq_true rfl, Nat.le_of_ble_eq_true rfl⟩, rfl, rfl⟩ (pl_rowo (by decide)) rfl rfl rfl rfl (Nat.le_of_ble_eq_true rfl) dX7_setReference_30 ⟨Nat.le_of_ble_eq_true rfl, Nat.le_of_ble_eq_true rfl⟩ rfl (fun H locs X => ?_)
  have h0 := Option.some.inj h0
  obtain ⟨q_0, h0⟩ := Prod.mk.inj h0
  obtain ⟨q_1, q_2⟩ := Prod.mk.inj h0
  subst q_0
  subst q_1
  subst q_2
  subst hQ
  exact w_iret K hr0 X wC_fstx hsz dX7_setReference_33
-- X7_sweep
def b_X7_sweep_90  (y90_l5 : Int32) (P_90 : RowsS) (G_90 : GlbS) : Option (Int32 × RowsS × GlbS) :=
  some (y90_l5, P_90, G_90)
def l_X7_sweep_46 (n : Nat) (a1 : Int32) (a2 : Int32) (a3 : Int32) (x7 : Int32) (z46_5 : Int32) (z46_6 : Int32) (Pz_46 : RowsS) : Option ((Int32 × Int32 × RowsS) ⊕ (Int32 × RowsS)) :=
  if a3 < z46_6 then
    some (.inr (z46_5, Pz_46))
  else
    if ¬ a3 = 0 then
      lt (f_X3_press (Pz_46 0) a1 (x7 + (((a2 - x7) * z46_6) / a3))) fun x10 =>
      lt (va_up Pz_46 0 x10) fun Pv11 =>
      ob (f_X3_settle n (Pv11 0)) fun x12 =>
      lt (va_up Pv11 0 x12.2) fun Pv13 =>
      lt (z46_5 + x12.1) fun x14 =>
      lt (z46_6 + 1) fun x15 =>
      some (.inl (x14, x15, Pv13))
    else none
def f_X7_sweep (n : Nat) (P : RowsS) (G : GlbS) (a1 : Int32) (a2 : Int32) (a3 : Int32) : Option (Int32 × RowsS × GlbS) :=
  ob (f_X7_requirePoint P G a1) fun x1 =>
  ob (f_X7_requireWithin a2 0 99999) fun x2 =>
  ob (f_X7_requireWithin a3 1 50) fun x3 =>
  ob (f_X0_keep n P G 0) fun x4 =>
  lt (x4.1) fun Pv5 =>
  lt (x4.2) fun Gv6 =>
  lt (f_X3_pressureAt (Pv5 0) a1) fun x7 =>
  ob (wloop (fun t => l_X7_sweep_46 n a1 a2 a3 x7 t.1 t.2.1 t.2.2) n (0, 1, Pv5)) (fun t => b_X7_sweep_90 t.1 t.2 Gv6)
abbrev rm_X7_sweep : Room := { frames := 6, cells := 0, slots := 0, locals := 166 }
set_option maxRecDepth 100000 in
set_option maxHeartbeats 4000000 in
theorem m_X7_sweep (l : Launch) (D : va_G) (ca : Nat → ClassId) (ar : Nat → Nat → Nat) (ag : Nat → Nat) (z : ZG) (n : Nat) (P : RowsS) (G : GlbS) (xs : va_W) (a1 : Int32) (a2 : Int32) (a3 : Int32) (res : Int32) (P' : RowsS) (G' : GlbS) (h0 : f_X7_sweep n P G a1 a2 a3 = some (res, P', G')) (sz : Nat) : Met l yX7_sweep (ws_ yX7_sweep cX7_sweep 7 (some .int)) rm_X7_sweep (PCz z D ca (wC ar ag ca P G ++ xs) sz [.ref (ag 0), .int a1, .int a2, .int a3]) (QMw D (wC ar ag ca P G ++ xs) (wC ar ag ca (P') (G') ++ xs) sz (some (.int res))) 0 0 (AL (wC ar ag ca P G ++ xs) sz) := by
  refine met_z (by decide +kernel) (Nat.le_of_ble_eq_true rfl) (fun p e s m args below meth c K hr0 hZ X hsz ls hl => ?_)
  have K : MC D ca p s m args meth c cX7_sweep 7 RX7 := K
  have hx := K.1
  have hb := K.2.1
  have hl : lv_has ls 7 [(0, .ref (ag 0)), (1, .int a1), (2, .int a2), (3, .int a3)] := hl
  generalize hQ : MQ below _ args s 0 0 _ = Q
  unfold f_X7_sweep at h0
  suffices Z : ∀ (H : Heap) (locs : List Loc) (X : RW D (wC ar ag ca P G ++ xs) s.heap H locs), W p l e rm_X7_sweep s m args below meth c H locs 0 0 Q (F0 m 0 ls []) from Z _ _ X
  intro H locs X
  have J90 : ∀ (y90_l5 : Int32) (P_90 : RowsS) (G_90 : GlbS) (H : Heap) (locs : List Loc) (X : RW D (wC ar ag ca P_90 G_90 ++ xs) s.heap H locs) (ls : Array Slot) (hl : lv_has ls 7 [(5, .int y90_l5)]) (h0 : b_X7_sweep_90 y90_l5 P_90 G_90 = some (res, P', G')), W p l e rm_X7_sweep s m args below meth c H locs 0 0 Q (F0 m 90 ls []) := by
    intro y90_l5 P_90 G_90 H locs X ls hl h0
    unfold b_X7_sweep_90 at h0
    refine lv_iload hx hb dX7_sweep_90 (lv_at hl 0 rfl) ?_
    have h0 := Option.some.inj h0
    obtain ⟨q_0, h0⟩ := Prod.mk.inj h0
    obtain ⟨q_1, q_2⟩ := Prod.mk.inj h0
    subst q_0
    subst q_1
    subst q_2
    subst hQ
    exact w_iret K hr0 X wC_fstx hsz dX7_sweep_92
  refine lv_aload_n hx hb dX7_sweep_0 rfl (lv_at hl 0 rfl) ?_
  refine lv_iload_n hx hb dX7_sweep_1 rfl (lv_at hl 1 rfl) ?_
  obtain ⟨x1, ex1, h0⟩ := ob_out h0
  have kx1 := m_X7_requirePoint l D ca ar ag z P G xs a1  ex1 H.size
  refine z_callV K hZ X wC_fstx wC_fstx kx1 hl.1 1 q851 q853 q9 q87 q854 hv_X7_requirePoint ⟨⟨Nat.le_of_ble_eq_true rfl, Nat.le_of_ble_eq_true rfl⟩, rfl, rfl⟩ (z_recvw K X (pl_glb (k := 0) (by decide)) rfl rfl) rfl rfl (Nat.le_of_ble_eq_true rfl) dX7_sweep_2 ⟨Nat.le_of_ble_eq_true rfl, Nat.le_of_ble_eq_true rfl⟩ rfl (fun H locs X => ?_)
  refine lv_iload_n hx hb dX7_sweep_5 rfl (lv_at hl 2 rfl) ?_
  refine lv_iconst (v := 0) hx hb dX7_sweep_6 (by decide) ?_
  refine lv_ldc hx hb K.2.2.2.1 (K.2.2.2.2.1 _ q935) dX7_sweep_7 ?_
  obtain ⟨x2, ex2, h0⟩ := ob_out h0
  have kx2 := m_X7_requireWithin l D ca z (wC ar ag ca P G ++ xs) a2 0 99999  ex2 H.size
  refine z_callS K hZ X wC_fstx wC_fstx kx2 hl.1 3 q557 q558 q87 q559 hs_X7_requireWithin ⟨⟨Nat.le_of_ble_eq_true rfl, Nat.le_of_ble_eq_true rfl⟩, rfl, rfl⟩ rfl rfl (Nat.le_of_ble_eq_true rfl) dX7_sweep_9 ⟨Nat.le_of_ble_eq_true rfl, Nat.le_of_ble_eq_true rfl⟩ rfl (fun H locs X => ?_)
  refine lv_iload_n hx hb dX7_sweep_12 rfl (lv_at hl 3 rfl) ?_
  refine lv_iconst (v := 1) hx hb dX7_sweep_13 (by decide) ?_
  refine lv_bipush (v := 50) hx hb dX7_sweep_14 (by decide) ?_
  obtain ⟨x3, ex3, h0⟩ := ob_out h0
  have kx3 := m_X7_requireWithin l D ca z (wC ar ag ca P G ++ xs) a3 1 50  ex3 H.size
  refine z_callS K hZ X wC_fstx wC_fstx kx3 hl.1 3 q557 q558 q87 q559 hs_X7_requireWithin ⟨⟨Nat.le_of_ble_eq_true rfl, Nat.le_of_ble_eq_true rfl⟩, rfl, rfl⟩ rfl rfl (Nat.le_of_ble_eq_true rfl) dX7_sweep_16 ⟨Nat.le_of_ble_eq_true rfl, Nat.le_of_ble_eq_true rfl⟩ rfl (fun H locs X => ?_)
  refine lv_aload_n hx hb dX7_sweep_19 rfl (lv_at hl 0 rfl) ?_
  refine g_objr K X 3 (by decide) rfl q364 dX7_sweep_20 ?_
  refine lv_aload_n hx hb dX7_sweep_23 rfl (lv_at hl 0 rfl) ?_
  refine g_objr K X 0 (by decide) rfl q361 dX7_sweep_24 ?_
  obtain ⟨x4, ex4, h0⟩ := ob_out h0
  obtain ⟨Pv5, ePv5, h0⟩ := lt_out h0
  obtain ⟨Gv6, eGv6, h0⟩ := lt_out h0
  have kx4 := m_X0_keep l D ca ar ag n P G xs 0 (by decide) x4.1 x4.2 ex4 H.size
  rw [← ePv5, ← eGv6] at kx4
  refine w_callV0 K X wC_fstx kx4 hl.1 1 q987 q988 q989 q91 q990 hv_X0_keep ⟨⟨Nat.le_of_ble_eq_true rfl, Nat.le_of_ble_eq_true rfl⟩, rfl, rfl⟩ (pl_glb (k := 1) (by decide)) rfl rfl rfl rfl (Nat.le_of_ble_eq_true rfl) dX7_sweep_27 ⟨Nat.le_of_ble_eq_true rfl, Nat.le_of_ble_eq_true rfl⟩ rfl (fun H locs X => ?_)
  refine lv_aload_n hx hb dX7_sweep_30 rfl (lv_at hl 0 rfl) ?_
  refine g_objr K X 0 (by decide) rfl q361 dX7_sweep_31 ?_
  refine lv_iload_n hx hb dX7_sweep_34 rfl (lv_at hl 1 rfl) ?_
  obtain ⟨x7, ex7, h0⟩ := lt_out h0
  have kx7 := mC_X3_pressureAt l D ca ar ag Pv5 0 Gv6 xs (by decide) a1 x7 ex7.symm H.size
  refine w_callV0 K X wC_fstx kx7 hl.1 1 q856 q437 q438 q88 q439 hv_X3_pressureAt ⟨⟨Nat.le_of_ble_eq_true rfl, Nat.le_of_ble_eq_true rfl⟩, rfl, rfl⟩ (pl_rowo (by decide)) rfl rfl rfl rfl (Nat.le_of_ble_eq_true rfl) dX7_sweep_35 ⟨Nat.le_of_ble_eq_true rfl, Nat.le_of_ble_eq_true rfl⟩ rfl (fun H locs X => ?_)
  refine lv_istore (lv' := [(4, .int x7), (0, .ref (ag 0)), (1, .int a1), (2, .int a2), (3, .int a3)]) hx hb dX7_sweep_38 hl (by decide) rfl (fun ls hl => ?_)
  refine lv_iconst (v := 0) hx hb dX7_sweep_40 (by decide) ?_
  refine lv_istore (lv' := [(5, .int 0), (4, .int x7), (0, .ref (ag 0)), (1, .int a1), (2, .int a2), (3, .int a3)]) hx hb dX7_sweep_41 hl (by decide) rfl (fun ls hl => ?_)
  refine lv_iconst (v := 1) hx hb dX7_sweep_43 (by decide) ?_
  refine lv_istore (lv' := [(6, .int 1), (5, .int 0), (4, .int x7), (0, .ref (ag 0)), (1, .int a1), (2, .int a2), (3, .int a3)]) hx hb dX7_sweep_44 hl (by decide) rfl (fun ls hl => ?_)
  obtain ⟨e_1, he1, h0⟩ := ob_out h0
  have K46 : ∀ (k : Nat) (z46_5 : Int32) (z46_6 : Int32) (Pz_46 : RowsS) (H : Heap) (locs : List Loc) (X : RW D (wC ar ag ca Pz_46 Gv6 ++ xs) s.heap H locs) (ls : Array Slot) (hl : lv_has ls 7 [(0, .ref (ag 0)), (1, .int a1), (2, .int a2), (3, .int a3), (4, .int x7), (5, .int z46_5), (6, .int z46_6)]) (hw : wloop (fun t => l_X7_sweep_46 n a1 a2 a3 x7 t.1 t.2.1 t.2.2) k (z46_5, z46_6, Pz_46) = some e_1), W p l e rm_X7_sweep s m args below meth c H locs 0 0 Q (F0 m 46 ls []) := by
    intro k
    induction k with
    | zero => intro z46_5 z46_6 Pz_46 H locs X ls hl hw; exact (wloop_0 hw).elim
    | succ k ih1 =>
      intro z46_5 z46_6 Pz_46 H locs X ls hl hw
      obtain ⟨x_1, h1, hx1⟩ := wloop_out hw
      have h1 : l_X7_sweep_46 n a1 a2 a3 x7 z46_5 z46_6 Pz_46 = some x_1 := h1
      unfold l_X7_sweep_46 at h1
      refine lv_iload hx hb dX7_sweep_46 (lv_at hl 6 rfl) ?_
      refine lv_iload_n hx hb dX7_sweep_48 rfl (lv_at hl 3 rfl) ?_
      refine lv_icmp_gt (tgt := 90) hx hb dX7_sweep_49 (by decide) (fun c8 => ?_) (fun c8 => ?_)
      · have h1 := if_t c8 h1
        have q1 := wl_r h1 hx1
        exact J90 z46_5 Pz_46 Gv6 H locs X ls (lv_sub hl [5] rfl) (by rw [q1] at h0; exact h0)
      · have h1 := if_f c8 h1
        refine lv_aload_n hx hb dX7_sweep_52 rfl (lv_at hl 0 rfl) ?_
        refine g_objr K X 0 (by decide) rfl q361 dX7_sweep_53 ?_
        refine lv_iload_n hx hb dX7_sweep_56 rfl (lv_at hl 1 rfl) ?_
        refine lv_iload hx hb dX7_sweep_57 (lv_at hl 4 rfl) ?_
        refine lv_iload_n hx hb dX7_sweep_59 rfl (lv_at hl 2 rfl) ?_
        refine lv_iload hx hb dX7_sweep_60 (lv_at hl 4 rfl) ?_
        refine lv_isub hx hb dX7_sweep_62 ?_
        refine lv_iload hx hb dX7_sweep_63 (lv_at hl 6 rfl) ?_
        refine lv_imul hx hb dX7_sweep_65 ?_
        refine lv_iload_n hx hb dX7_sweep_66 rfl (lv_at hl 3 rfl) ?_
        obtain ⟨c9, h1⟩ := if_o h1
        refine lv_idiv hx hb dX7_sweep_67 c9 ?_
        refine lv_iadd hx hb dX7_sweep_68 ?_
        obtain ⟨x10, ex10, h1⟩ := lt_out h1
        obtain ⟨Pv11, ePv11, h1⟩ := lt_out h1
        have kx10 := mC_X3_press l D ca ar ag Pz_46 0 Gv6 xs (by decide) a1 (x7 + (((a2 - x7) * z46_6) / a3)) x10 ex10.symm H.size
        rw [← ePv11] at kx10
        refine w_callV0 K X wC_fstx kx10 hl.1 2 q951 q756 q757 q88 q758 hv_X3_press ⟨⟨Nat.le_of_ble_eq_true rfl, Nat.le_of_ble_eq_true rfl⟩, rfl, rfl⟩ (pl_rowo (by decide)) rfl rfl rfl rfl (Nat.le_of_ble_eq_true rfl) dX7_sweep_69 ⟨Nat.le_of_ble_eq_true rfl, Nat.le_of_ble_eq_true rfl⟩ rfl (fun H locs X => ?_)
        refine lv_iload hx hb dX7_sweep_72 (lv_at hl 5 rfl) ?_
        refine lv_aload_n hx hb dX7_sweep_74 rfl (lv_at hl 0 rfl) ?_
        refine g_objr K X 0 (by decide) rfl q361 dX7_sweep_75 ?_
        obtain ⟨x12, ex12, h1⟩ := ob_out h1
        obtain ⟨Pv13, ePv13, h1⟩ := lt_out h1
        have kx12 := mC_X3_settle l D ca ar ag n Pv11 0 Gv6 xs (by decide) x12.1 x12.2 ex12 H.size
        rw [← ePv13] at kx12
        refine w_callV0 K X wC_fstx kx12 hl.1 0 q763 q764 q765 q88 q766 hv_X3_settle ⟨⟨Nat.le_of_ble_eq_true rfl, Nat.le_of_ble_eq_true rfl⟩, rfl, rfl⟩ (pl_rowo (by decide)) rfl rfl rfl rfl (Nat.le_of_ble_eq_true rfl) dX7_sweep_78 ⟨Nat.le_of_ble_eq_true rfl, Nat.le_of_ble_eq_true rfl⟩ rfl (fun H locs X => ?_)
        refine lv_iadd hx hb dX7_sweep_81 ?_
        obtain ⟨x14, ex14, h1⟩ := lt_out h1
        refine w_int ex14 ?_
        refine lv_istore (lv' := [(5, .int x14), (0, .ref (ag 0)), (1, .int a1), (2, .int a2), (3, .int a3), (4, .int x7), (6, .int z46_6)]) hx hb dX7_sweep_82 hl (by decide) rfl (fun ls hl => ?_)
        obtain ⟨x15, ex15, h1⟩ := lt_out h1
        refine lv_iinc (v := x15) (lv' := [(6, .int x15), (5, .int x14), (0, .ref (ag 0)), (1, .int a1), (2, .int a2), (3, .int a3), (4, .int x7)]) hx hb dX7_sweep_84 hl (k := 6) rfl (by rw [ex15]; rfl) (by decide) rfl (fun ls hl => ?_)
        refine lv_goto (tgt := 46) hx hb dX7_sweep_87 (by decide) ?_
        exact ih1 x14 x15 Pv13 H locs X ls (lv_sub hl [2, 3, 4, 5, 6, 1, 0] rfl) (wl_l h1 hx1)
  exact K46 n 0 1 Pv5 H locs X ls (lv_sub hl [3, 4, 5, 6, 2, 1, 0] rfl) he1
-- X7_setSlant
def f_X7_setSlant (n : Nat) (P : RowsS) (G : GlbS) (a1 : Int32) (a2 : Int32) : Option (Int32 × RowsS × GlbS) :=
  ob (f_X7_requireTube P G a1) fun x1 =>
  ob (f_X7_requireWithin a2 50 1000) fun x2 =>
  ob (f_X0_keep n P G 0) fun x3 =>
  lt (x3.1) fun Pv4 =>
  lt (x3.2) fun Gv5 =>
  lt (f_X3_tubeAt (Pv4 0) a1) fun x6 =>
  lt (x6) fun j7 =>
  lt (va_up Pv4 0 (si (Pv4 0) (j7 + 5) 3 a2)) fun Pv8 =>
  ob (f_X3_settle n (Pv8 0)) fun x9 =>
  lt (va_up Pv8 0 x9.2) fun Pv10 =>
  some (x9.1, Pv10, Gv5)
abbrev rm_X7_setSlant : Room := { frames := 6, cells := 0, slots := 0, locals := 166 }
set_option maxRecDepth 100000 in
set_option maxHeartbeats 4000000 in
theorem m_X7_setSlant (l : Launch) (D : va_G) (ca : Nat → ClassId) (ar : Nat → Nat → Nat) (ag : Nat → Nat) (z : ZG) (n : Nat) (P : RowsS) (G : GlbS) (xs : va_W) (a1 : Int32) (a2 : Int32) (res : Int32) (P' : RowsS) (G' : GlbS) (h0 : f_X7_setSlant n P G a1 a2 = some (res, P', G')) (sz : Nat) : Met l yX7_setSlant (ws_ yX7_setSlant cX7_setSlant 3 (some .int)) rm_X7_setSlant (PCz z D ca (wC ar ag ca P G ++ xs) sz [.ref (ag 0), .int a1, .int a2]) (QMw D (wC ar ag ca P G ++ xs) (wC ar ag ca (P') (G') ++ xs) sz (some (.int res))) 0 0 (AL (wC ar ag ca P G ++ xs) sz) := by
  refine met_z (by decide +kernel) (Nat.le_of_ble_eq_true rfl) (fun p e s m args below meth c K hr0 hZ X hsz ls hl => ?_)
  have K : MC D ca p s m args meth c cX7_setSlant 3 RX7 := K
  have hx := K.1
  have hb := K.2.1
  have hl : lv_has ls 3 [(0, .ref (ag 0)), (1, .int a1), (2, .int a2)] := hl
  generalize hQ : MQ below _ args s 0 0 _ = Q
  unfold f_X7_setSlant at h0
  suffices Z : ∀ (H : Heap) (locs : List Loc) (X : RW D (wC ar ag ca P G ++ xs) s.heap H locs), W p l e rm_X7_setSlant s m args below meth c H locs 0 0 Q (F0 m 0 ls []) from Z _ _ X
  intro H locs X
  refine lv_aload_n hx hb dX7_setSlant_0 rfl (lv_at hl 0 rfl) ?_
  refine lv_iload_n hx hb dX7_setSlant_1 rfl (lv_at hl 1 rfl) ?_
  obtain ⟨x1, ex1, h0⟩ := ob_out h0
  have kx1 := m_X7_requireTube l D ca ar ag z P G xs a1  ex1 H.size
  refine z_callV K hZ X wC_fstx wC_fstx kx1 hl.1 1 q886 q888 q10 q87 q889 hv_X7_requireTube ⟨⟨Nat.le_of_ble_eq_true rfl, Nat.le_of_ble_eq_true rfl⟩, rfl, rfl⟩ (z_recvw K X (pl_glb (k := 0) (by decide)) rfl rfl) rfl rfl (Nat.le_of_ble_eq_true rfl) dX7_setSlant_2 ⟨Nat.le_of_ble_eq_true rfl, Nat.le_of_ble_eq_true rfl⟩ rfl (fun H locs X => ?_)
  refine lv_iload_n hx hb dX7_setSlant_5 rfl (lv_at hl 2 rfl) ?_
  refine lv_bipush (v := 50) hx hb dX7_setSlant_6 (by decide) ?_
  refine lv_sipush (v := 1000) hx hb dX7_setSlant_8 (by decide) ?_
  obtain ⟨x2, ex2, h0⟩ := ob_out h0
  have kx2 := m_X7_requireWithin l D ca z (wC ar ag ca P G ++ xs) a2 50 1000  ex2 H.size
  refine z_callS K hZ X wC_fstx wC_fstx kx2 hl.1 3 q557 q558 q87 q559 hs_X7_requireWithin ⟨⟨Nat.le_of_ble_eq_true rfl, Nat.le_of_ble_eq_true rfl⟩, rfl, rfl⟩ rfl rfl (Nat.le_of_ble_eq_true rfl) dX7_setSlant_11 ⟨Nat.le_of_ble_eq_true rfl, Nat.le_of_ble_eq_true rfl⟩ rfl (fun H locs X => ?_)
  refine lv_aload_n hx hb dX7_setSlant_14 rfl (lv_at hl 0 rfl) ?_
  refine g_objr K X 3 (by decide) rfl q364 dX7_setSlant_15 ?_
  refine lv_aload_n hx hb dX7_setSlant_18 rfl (lv_at hl 0 rfl) ?_
  refine g_objr K X 0 (by decide) rfl q361 dX7_setSlant_19 ?_
  obtain ⟨x3, ex3, h0⟩ := ob_out h0
  obtain ⟨Pv4, ePv4, h0⟩ := lt_out h0
  obtain ⟨Gv5, eGv5, h0⟩ := lt_out h0
  have kx3 := m_X0_keep l D ca ar ag n P G xs 0 (by decide) x3.1 x3.2 ex3 H.size
  rw [← ePv4, ← eGv5] at kx3
  refine w_callV0 K X wC_fstx kx3 hl.1 1 q987 q988 q989 q91 q990 hv_X0_keep ⟨⟨Nat.le_of_ble_eq_true rfl, Nat.le_of_ble_eq_true rfl⟩, rfl, rfl⟩ (pl_glb (k := 1) (by decide)) rfl rfl rfl rfl (Nat.le_of_ble_eq_true rfl) dX7_setSlant_22 ⟨Nat.le_of_ble_eq_true rfl, Nat.le_of_ble_eq_true rfl⟩ rfl (fun H locs X => ?_)
  refine lv_aload_n hx hb dX7_setSlant_25 rfl (lv_at hl 0 rfl) ?_
  refine g_objr K X 0 (by decide) rfl q361 dX7_setSlant_26 ?_
  refine lv_iload_n hx hb dX7_setSlant_29 rfl (lv_at hl 1 rfl) ?_
  obtain ⟨x6, ex6, h0⟩ := lt_out h0
  have kx6 := mC_X3_tubeAt l D ca ar ag Pv4 0 Gv5 xs (by decide) a1 x6 ex6.symm H.size
  refine w_callV0 K X wC_fstx kx6 hl.1 1 q403 q404 q405 q88 q406 hv_X3_tubeAt ⟨⟨Nat.le_of_ble_eq_true rfl, Nat.le_of_ble_eq_true rfl⟩, rfl, rfl⟩ (pl_rowo (by decide)) rfl rfl rfl rfl (Nat.le_of_ble_eq_true rfl) dX7_setSlant_30 ⟨Nat.le_of_ble_eq_true rfl, Nat.le_of_ble_eq_true rfl⟩ rfl (fun H locs X => ?_)
  obtain ⟨j7, ej7, h0⟩ := lt_out h0
  rw [← ej7]
  have hj7 : j7 < 13 := by rw [ej7]; exact lt_X3_tubeAt ex6
  refine lv_iload_n hx hb dX7_setSlant_33 rfl (lv_at hl 2 rfl) ?_
  obtain ⟨Pv8, ePv8, h0⟩ := lt_out h0
  refine p_tube K X (by decide) hj7 3 (by decide) ePv8.symm q186 dX7_setSlant_34 (fun H locs X => ?_)
  refine lv_aload_n hx hb dX7_setSlant_37 rfl (lv_at hl 0 rfl) ?_
  refine g_objr K X 0 (by decide) rfl q361 dX7_setSlant_38 ?_
  obtain ⟨x9, ex9, h0⟩ := ob_out h0
  obtain ⟨Pv10, ePv10, h0⟩ := lt_out h0
  have kx9 := mC_X3_settle l D ca ar ag n Pv8 0 Gv5 xs (by decide) x9.1 x9.2 ex9 H.size
  rw [← ePv10] at kx9
  refine w_callV0 K X wC_fstx kx9 hl.1 0 q763 q764 q765 q88 q766 hv_X3_settle ⟨⟨Nat.le_of_ble_eq_true rfl, Nat.le_of_ble_eq_true rfl⟩, rfl, rfl⟩ (pl_rowo (by decide)) rfl rfl rfl rfl (Nat.le_of_ble_eq_true rfl) dX7_setSlant_41 ⟨Nat.le_of_ble_eq_true rfl, Nat.le_of_ble_eq_true rfl⟩ rfl (fun H locs X => ?_)
  have h0 := Option.some.inj h0
  obtain ⟨q_0, h0⟩ := Prod.mk.inj h0
  obtain ⟨q_1, q_2⟩ := Prod.mk.inj h0
  subst q_0
  subst q_1
  subst q_2
  subst hQ
  exact w_iret K hr0 X wC_fstx hsz dX7_setSlant_44
-- X7_setMark
def f_X7_setMark (n : Nat) (P : RowsS) (G : GlbS) (a1 : Int32) : Option (Int32 × RowsS × GlbS) :=
  ob (f_X7_requireTube P G a1) fun x1 =>
  lt (f_X3_tubeAt (P 0) a1) fun x2 =>
  lt (x2) fun j3 =>
  if ((P 0).1 (j3 + 5) 6) = 0 then
    lt (-(((P 0).1 (j3 + 5) 9) / 10)) fun x5 =>
    if (-9999) ≤ x5 then
      ob (f_X0_keep n P G 0) fun x7 =>
      lt (x7.1) fun Pv8 =>
      lt (x7.2) fun Gv9 =>
      lt (va_up Pv8 0 (si (Pv8 0) (j3 + 5) 5 x5)) fun Pv10 =>
      some (x5, Pv10, Gv9)
    else
      some ((-1000000001), P, G)
  else
    some ((-1000000000), P, G)
abbrev rm_X7_setMark : Room := { frames := 4, cells := 0, slots := 0, locals := 88 }
set_option maxRecDepth 100000 in
set_option maxHeartbeats 4000000 in
theorem m_X7_setMark (l : Launch) (D : va_G) (ca : Nat → ClassId) (ar : Nat → Nat → Nat) (ag : Nat → Nat) (z : ZG) (n : Nat) (P : RowsS) (G : GlbS) (xs : va_W) (a1 : Int32) (res : Int32) (P' : RowsS) (G' : GlbS) (h0 : f_X7_setMark n P G a1 = some (res, P', G')) (sz : Nat) : Met l yX7_setMark (ws_ yX7_setMark cX7_setMark 4 (some .int)) rm_X7_setMark (PCz z D ca (wC ar ag ca P G ++ xs) sz [.ref (ag 0), .int a1]) (QMw D (wC ar ag ca P G ++ xs) (wC ar ag ca (P') (G') ++ xs) sz (some (.int res))) 0 0 (AL (wC ar ag ca P G ++ xs) sz) := by
  refine met_z (by decide +kernel) (Nat.le_of_ble_eq_true rfl) (fun p e s m args below meth c K hr0 hZ X hsz ls hl => ?_)
  have K : MC D ca p s m args meth c cX7_setMark 4 RX7 := K
  have hx := K.1
  have hb := K.2.1
  have hl : lv_has ls 4 [(0, .ref (ag 0)), (1, .int a1)] := hl
  generalize hQ : MQ below _ args s 0 0 _ = Q
  unfold f_X7_setMark at h0
  suffices Z : ∀ (H : Heap) (locs : List Loc) (X : RW D (wC ar ag ca P G ++ xs) s.heap H locs), W p l e rm_X7_setMark s m args below meth c H locs 0 0 Q (F0 m 0 ls []) from Z _ _ X
  intro H locs X
  refine lv_aload_n hx hb dX7_setMark_0 rfl (lv_at hl 0 rfl) ?_
  refine lv_iload_n hx hb dX7_setMark_1 rfl (lv_at hl 1 rfl) ?_
  obtain ⟨x1, ex1, h0⟩ := ob_out h0
  have kx1 := m_X7_requireTube l D ca ar ag z P G xs a1  ex1 H.size
  refine z_callV K hZ X wC_fstx wC_fstx kx1 hl.1 1 q886 q888 q10 q87 q889 hv_X7_requireTube ⟨⟨Nat.le_of_ble_eq_true rfl, Nat.le_of_ble_eq_true rfl⟩, rfl, rfl⟩ (z_recvw K X (pl_glb (k := 0) (by decide)) rfl rfl) rfl rfl (Nat.le_of_ble_eq_true rfl) dX7_setMark_2 ⟨Nat.le_of_ble_eq_true rfl, Nat.le_of_ble_eq_true rfl⟩ rfl (fun H locs X => ?_)
  refine lv_aload_n hx hb dX7_setMark_5 rfl (lv_at hl 0 rfl) ?_
  refine g_objr K X 0 (by decide) rfl q361 dX7_setMark_6 ?_
  refine lv_iload_n hx hb dX7_setMark_9 rfl (lv_at hl 1 rfl) ?_
  obtain ⟨x2, ex2, h0⟩ := lt_out h0
  have kx2 := mC_X3_tubeAt l D ca ar ag P 0 G xs (by decide) a1 x2 ex2.symm H.size
  refine w_callV0 K X wC_fstx kx2 hl.1 1 q403 q404 q405 q88 q406 hv_X3_tubeAt ⟨⟨Nat.le_of_ble_eq_true rfl, Nat.le_of_ble_eq_true rfl⟩, rfl, rfl⟩ (pl_rowo (by decide)) rfl rfl rfl rfl (Nat.le_of_ble_eq_true rfl) dX7_setMark_10 ⟨Nat.le_of_ble_eq_true rfl, Nat.le_of_ble_eq_true rfl⟩ rfl (fun H locs X => ?_)
  obtain ⟨j3, ej3, h0⟩ := lt_out h0
  rw [← ej3]
  have hj3 : j3 < 13 := by rw [ej3]; exact lt_X3_tubeAt ex2
  refine lv_astore_n (lv' := [(2, .ref (ar 0 (j3 + 5))), (0, .ref (ag 0)), (1, .int a1)]) hx hb dX7_setMark_13 rfl hl (by decide) rfl (fun ls hl => ?_)
  refine lv_aload_n hx hb dX7_setMark_14 rfl (lv_at hl 0 rfl) ?_
  refine g_tube K X (by decide) hj3 rfl 6 (by decide) q194 dX7_setMark_15 ?_
  refine lv_if_eq (tgt := 24) hx hb dX7_setMark_18 (by decide) (fun c4 => ?_) (fun c4 => ?_)
  · have h0 := if_t c4 h0
    refine lv_aload_n hx hb dX7_setMark_24 rfl (lv_at hl 0 rfl) ?_
    refine g_tube K X (by decide) hj3 rfl 9 (by decide) q202 dX7_setMark_25 ?_
    refine lv_bipush (v := 10) hx hb dX7_setMark_28 (by decide) ?_
    refine lv_idiv hx hb dX7_setMark_30 (by decide) ?_
    refine lv_ineg hx hb dX7_setMark_31 ?_
    obtain ⟨x5, ex5, h0⟩ := lt_out h0
    refine w_int ex5 ?_
    refine lv_istore_n (lv' := [(3, .int x5), (2, .ref (ar 0 (j3 + 5))), (0, .ref (ag 0)), (1, .int a1)]) hx hb dX7_setMark_32 rfl hl (by decide) rfl (fun ls hl => ?_)
    refine lv_iload_n hx hb dX7_setMark_33 rfl (lv_at hl 0 rfl) ?_
    refine lv_sipush (v := (-9999)) hx hb dX7_setMark_34 (by decide) ?_
    refine lv_icmp_ge (tgt := 43) hx hb dX7_setMark_37 (by decide) (fun c6 => ?_) (fun c6 => ?_)
    · have h0 := if_t c6 h0
      refine lv_aload_n hx hb dX7_setMark_43 rfl (lv_at hl 2 rfl) ?_
      refine g_objr K X 3 (by decide) rfl q364 dX7_setMark_44 ?_
      refine lv_aload_n hx hb dX7_setMark_47 rfl (lv_at hl 2 rfl) ?_
      refine g_objr K X 0 (by decide) rfl q361 dX7_setMark_48 ?_
      obtain ⟨x7, ex7, h0⟩ := ob_out h0
      obtain ⟨Pv8, ePv8, h0⟩ := lt_out h0
      obtain ⟨Gv9, eGv9, h0⟩ := lt_out h0
      have kx7 := m_X0_keep l D ca ar ag n P G xs 0 (by decide) x7.1 x7.2 ex7 H.size
      rw [← ePv8, ← eGv9] at kx7
      refine w_callV0 K X wC_fstx kx7 hl.1 1 q987 q988 q989 q91 q990 hv_X0_keep ⟨⟨Nat.le_of_ble_eq_true rfl, Nat.le_of_ble_eq_true rfl⟩, rfl, rfl⟩ (pl_glb (k := 1) (by decide)) rfl rfl rfl rfl (Nat.le_of_ble_eq_true rfl) dX7_setMark_51 ⟨Nat.le_of_ble_eq_true rfl, Nat.le_of_ble_eq_true rfl⟩ rfl (fun H locs X => ?_)
      refine lv_aload_n hx hb dX7_setMark_54 rfl (lv_at hl 1 rfl) ?_
      refine lv_iload_n hx hb dX7_setMark_55 rfl (lv_at hl 0 rfl) ?_
      obtain ⟨Pv10, ePv10, h0⟩ := lt_out h0
      refine p_tube K X (by decide) hj3 5 (by decide) ePv10.symm q192 dX7_setMark_56 (fun H locs X => ?_)
      refine lv_iload_n hx hb dX7_setMark_59 rfl (lv_at hl 0 rfl) ?_
      have h0 := Option.some.inj h0
      obtain ⟨q_0, h0⟩ := Prod.mk.inj h0
      obtain ⟨q_1, q_2⟩ := Prod.mk.inj h0
      subst q_0
      subst q_1
      subst q_2
      subst hQ
      exact w_iret K hr0 X wC_fstx hsz dX7_setMark_60
    · have h0 := if_f c6 h0
      refine lv_ldc hx hb K.2.2.2.1 (K.2.2.2.2.1 _ q1019) dX7_setMark_40 ?_
      have h0 := Option.some.inj h0
      obtain ⟨q_0, h0⟩ := Prod.mk.inj h0
      obtain ⟨q_1, q_2⟩ := Prod.mk.inj h0
      subst q_0
      subst q_1
      subst q_2
      subst hQ
      exact w_iret K hr0 X wC_fstx hsz dX7_setMark_42
  · have h0 := if_f c4 h0
    refine lv_ldc hx hb K.2.2.2.1 (K.2.2.2.2.1 _ q905) dX7_setMark_21 ?_
    have h0 := Option.some.inj h0
    obtain ⟨q_0, h0⟩ := Prod.mk.inj h0
    obtain ⟨q_1, q_2⟩ := Prod.mk.inj h0
    subst q_0
    subst q_1
    subst q_2
    subst hQ
    exact w_iret K hr0 X wC_fstx hsz dX7_setMark_23
-- X7_setCurve
def f_X7_setCurve (n : Nat) (P : RowsS) (G : GlbS) (a1 : Int32) (a2 : Int32) : Option (Int32 × RowsS × GlbS) :=
  ob (f_X7_requireLeg a1) fun x1 =>
  ob (f_X7_requireWithin a2 (-9999) 9999) fun x2 =>
  ob (f_X0_keep n P G 0) fun x3 =>
  lt (x3.1) fun Pv4 =>
  lt (x3.2) fun Gv5 =>
  lt (f_X3_legAt (Pv4 0) a1) fun x6 =>
  lt (x6) fun j7 =>
  lt (va_up Pv4 0 (si (Pv4 0) (j7 + 2) 2 a2)) fun Pv8 =>
  ob (f_X3_settle n (Pv8 0)) fun x9 =>
  lt (va_up Pv8 0 x9.2) fun Pv10 =>
  some (x9.1, Pv10, Gv5)
abbrev rm_X7_setCurve : Room := { frames := 6, cells := 0, slots := 0, locals := 166 }
set_option maxRecDepth 100000 in
set_option maxHeartbeats 4000000 in
theorem m_X7_setCurve (l : Launch) (D : va_G) (ca : Nat → ClassId) (ar : Nat → Nat → Nat) (ag : Nat → Nat) (z : ZG) (n : Nat) (P : RowsS) (G : GlbS) (xs : va_W) (a1 : Int32) (a2 : Int32) (res : Int32) (P' : RowsS) (G' : GlbS) (h0 : f_X7_setCurve n P G a1 a2 = some (res, P', G')) (sz : Nat) : Met l yX7_setCurve (ws_ yX7_setCurve cX7_setCurve 3 (some .int)) rm_X7_setCurve (PCz z D ca (wC ar ag ca P G ++ xs) sz [.ref (ag 0), .int a1, .int a2]) (QMw D (wC ar ag ca P G ++ xs) (wC ar ag ca (P') (G') ++ xs) sz (some (.int res))) 0 0 (AL (wC ar ag ca P G ++ xs) sz) := by
  refine met_z (by decide +kernel) (Nat.le_of_ble_eq_true rfl) (fun p e s m args below meth c K hr0 hZ X hsz ls hl => ?_)
  have K : MC D ca p s m args meth c cX7_setCurve 3 RX7 := K
  have hx := K.1
  have hb := K.2.1
  have hl : lv_has ls 3 [(0, .ref (ag 0)), (1, .int a1), (2, .int a2)] := hl
  generalize hQ : MQ below _ args s 0 0 _ = Q
  unfold f_X7_setCurve at h0
  suffices Z : ∀ (H : Heap) (locs : List Loc) (X : RW D (wC ar ag ca P G ++ xs) s.heap H locs), W p l e rm_X7_setCurve s m args below meth c H locs 0 0 Q (F0 m 0 ls []) from Z _ _ X
  intro H locs X
  refine lv_iload_n hx hb dX7_setCurve_0 rfl (lv_at hl 1 rfl) ?_
  obtain ⟨x1, ex1, h0⟩ := ob_out h0
  have kx1 := m_X7_requireLeg l D ca z (wC ar ag ca P G ++ xs) a1  ex1 H.size
  refine z_callS K hZ X wC_fstx wC_fstx kx1 hl.1 1 q864 q865 q87 q866 hs_X7_requireLeg ⟨⟨Nat.le_of_ble_eq_true rfl, Nat.le_of_ble_eq_true rfl⟩, rfl, rfl⟩ rfl rfl (Nat.le_of_ble_eq_true rfl) dX7_setCurve_1 ⟨Nat.le_of_ble_eq_true rfl, Nat.le_of_ble_eq_true rfl⟩ rfl (fun H locs X => ?_)
  refine lv_iload_n hx hb dX7_setCurve_4 rfl (lv_at hl 2 rfl) ?_
  refine lv_sipush (v := (-9999)) hx hb dX7_setCurve_5 (by decide) ?_
  refine lv_sipush (v := 9999) hx hb dX7_setCurve_8 (by decide) ?_
  obtain ⟨x2, ex2, h0⟩ := ob_out h0
  have kx2 := m_X7_requireWithin l D ca z (wC ar ag ca P G ++ xs) a2 (-9999) 9999  ex2 H.size
  refine z_callS K hZ X wC_fstx wC_fstx kx2 hl.1 3 q557 q558 q87 q559 hs_X7_requireWithin ⟨⟨Nat.le_of_ble_eq_true rfl, Nat.le_of_ble_eq_true rfl⟩, rfl, rfl⟩ rfl rfl (Nat.le_of_ble_eq_true rfl) dX7_setCurve_11 ⟨Nat.le_of_ble_eq_true rfl, Nat.le_of_ble_eq_true rfl⟩ rfl (fun H locs X => ?_)
  refine lv_aload_n hx hb dX7_setCurve_14 rfl (lv_at hl 0 rfl) ?_
  refine g_objr K X 3 (by decide) rfl q364 dX7_setCurve_15 ?_
  refine lv_aload_n hx hb dX7_setCurve_18 rfl (lv_at hl 0 rfl) ?_
  refine g_objr K X 0 (by decide) rfl q361 dX7_setCurve_19 ?_
  obtain ⟨x3, ex3, h0⟩ := ob_out h0
  obtain ⟨Pv4, ePv4, h0⟩ := lt_out h0
  obtain ⟨Gv5, eGv5, h0⟩ := lt_out h0
  have kx3 := m_X0_keep l D ca ar ag n P G xs 0 (by decide) x3.1 x3.2 ex3 H.size
  rw [← ePv4, ← eGv5] at kx3
  refine w_callV0 K X wC_fstx kx3 hl.1 1 q987 q988 q989 q91 q990 hv_X0_keep ⟨⟨Nat.le_of_ble_eq_true rfl, Nat.le_of_ble_eq_true rfl⟩, rfl, rfl⟩ (pl_glb (k := 1) (by decide)) rfl rfl rfl rfl (Nat.le_of_ble_eq_true rfl) dX7_setCurve_22 ⟨Nat.le_of_ble_eq_true rfl, Nat.le_of_ble_eq_true rfl⟩ rfl (fun H locs X => ?_)
  refine lv_aload_n hx hb dX7_setCurve_25 rfl (lv_at hl 0 rfl) ?_
  refine g_objr K X 0 (by decide) rfl q361 dX7_setCurve_26 ?_
  refine lv_iload_n hx hb dX7_setCurve_29 rfl (lv_at hl 1 rfl) ?_
  obtain ⟨x6, ex6, h0⟩ := lt_out h0
  have kx6 := mC_X3_legAt l D ca ar ag Pv4 0 Gv5 xs (by decide) a1 x6 ex6.symm H.size
  refine w_callV0 K X wC_fstx kx6 hl.1 1 q868 q416 q417 q88 q418 hv_X3_legAt ⟨⟨Nat.le_of_ble_eq_true rfl, Nat.le_of_ble_eq_true rfl⟩, rfl, rfl⟩ (pl_rowo (by decide)) rfl rfl rfl rfl (Nat.le_of_ble_eq_true rfl) dX7_setCurve_30 ⟨Nat.le_of_ble_eq_true rfl, Nat.le_of_ble_eq_true rfl⟩ rfl (fun H locs X => ?_)
  obtain ⟨j7, ej7, h0⟩ := lt_out h0
  rw [← ej7]
  have hj7 : j7 < 2 := by rw [ej7]; exact lt_X3_legAt ex6
  refine lv_iload_n hx hb dX7_setCurve_33 rfl (lv_at hl 2 rfl) ?_
  obtain ⟨Pv8, ePv8, h0⟩ := lt_out h0
  refine p_legi K X (by decide) hj7 2 (by decide) ePv8.symm q140 dX7_setCurve_34 (fun H locs X => ?_)
  refine lv_aload_n hx hb dX7_setCurve_37 rfl (lv_at hl 0 rfl) ?_
  refine g_objr K X 0 (by decide) rfl q361 dX7_setCurve_38 ?_
  obtain ⟨x9, ex9, h0⟩ := ob_out h0
  obtain ⟨Pv10, ePv10, h0⟩ := lt_out h0
  have kx9 := mC_X3_settle l D ca ar ag n Pv8 0 Gv5 xs (by decide) x9.1 x9.2 ex9 H.size
  rw [← ePv10] at kx9
  refine w_callV0 K X wC_fstx kx9 hl.1 0 q763 q764 q765 q88 q766 hv_X3_settle ⟨⟨Nat.le_of_ble_eq_true rfl, Nat.le_of_ble_eq_true rfl⟩, rfl, rfl⟩ (pl_rowo (by decide)) rfl rfl rfl rfl (Nat.le_of_ble_eq_true rfl) dX7_setCurve_41 ⟨Nat.le_of_ble_eq_true rfl, Nat.le_of_ble_eq_true rfl⟩ rfl (fun H locs X => ?_)
  have h0 := Option.some.inj h0
  obtain ⟨q_0, h0⟩ := Prod.mk.inj h0
  obtain ⟨q_1, q_2⟩ := Prod.mk.inj h0
  subst q_0
  subst q_1
  subst q_2
  subst hQ
  exact w_iret K hr0 X wC_fstx hsz dX7_setCurve_44
-- X7_mend
def f_X7_mend (n : Nat) (P : RowsS) (G : GlbS) (a1 : Int32) : Option (Int32 × RowsS × GlbS) :=
  ob (f_X7_requireTube P G a1) fun x1 =>
  lt (f_X3_tubeAt (P 0) a1) fun x2 =>
  lt (x2) fun j3 =>
  if ((P 0).1 (j3 + 5) 6) = 0 then
    some ((-2), P, G)
  else
    ob (f_X0_keep n P G 0) fun x5 =>
    lt (x5.1) fun Pv6 =>
    lt (x5.2) fun Gv7 =>
    lt (va_up Pv6 0 (si (Pv6 0) (j3 + 5) 6 0)) fun Pv8 =>
    ob (f_X3_settle n (Pv8 0)) fun x9 =>
    lt (va_up Pv8 0 x9.2) fun Pv10 =>
    some (((Pv10 0).1 (j3 + 5) 6), Pv10, Gv7)
abbrev rm_X7_mend : Room := { frames := 6, cells := 0, slots := 0, locals := 166 }
set_option maxRecDepth 100000 in
set_option maxHeartbeats 4000000 in
theorem m_X7_mend (l : Launch) (D : va_G) (ca : Nat → ClassId) (ar : Nat → Nat → Nat) (ag : Nat → Nat) (z : ZG) (n : Nat) (P : RowsS) (G : GlbS) (xs : va_W) (a1 : Int32) (res : Int32) (P' : RowsS) (G' : GlbS) (h0 : f_X7_mend n P G a1 = some (res, P', G')) (sz : Nat) : Met l yX7_mend (ws_ yX7_mend cX7_mend 3 (some .int)) rm_X7_mend (PCz z D ca (wC ar ag ca P G ++ xs) sz [.ref (ag 0), .int a1]) (QMw D (wC ar ag ca P G ++ xs) (wC ar ag ca (P') (G') ++ xs) sz (some (.int res))) 0 0 (AL (wC ar ag ca P G ++ xs) sz) := by
  refine met_z (by decide +kernel) (Nat.le_of_ble_eq_true rfl) (fun p e s m args below meth c K hr0 hZ X hsz ls hl => ?_)
  have K : MC D ca p s m args meth c cX7_mend 3 RX7 := K
  have hx := K.1
  have hb := K.2.1
  have hl : lv_has ls 3 [(0, .ref (ag 0)), (1, .int a1)] := hl
  generalize hQ : MQ below _ args s 0 0 _ = Q
  unfold f_X7_mend at h0
  suffices Z : ∀ (H : Heap) (locs : List Loc) (X : RW D (wC ar ag ca P G ++ xs) s.heap H locs), W p l e rm_X7_mend s m args below meth c H locs 0 0 Q (F0 m 0 ls []) from Z _ _ X
  intro H locs X
  refine lv_aload_n hx hb dX7_mend_0 rfl (lv_at hl 0 rfl) ?_
  refine lv_iload_n hx hb dX7_mend_1 rfl (lv_at hl 1 rfl) ?_
  obtain ⟨x1, ex1, h0⟩ := ob_out h0
  have kx1 := m_X7_requireTube l D ca ar ag z P G xs a1  ex1 H.size
  refine z_callV K hZ X wC_fstx wC_fstx kx1 hl.1 1 q886 q888 q10 q87 q889 hv_X7_requireTube ⟨⟨Nat.le_of_ble_eq_true rfl, Nat.le_of_ble_eq_true rfl⟩, rfl, rfl⟩ (z_recvw K X (pl_glb (k := 0) (by decide)) rfl rfl) rfl rfl (Nat.le_of_ble_eq_true rfl) dX7_mend_2 ⟨Nat.le_of_ble_eq_true rfl, Nat.le_of_ble_eq_true rfl⟩ rfl (fun H locs X => ?_)
  refine lv_aload_n hx hb dX7_mend_5 rfl (lv_at hl 0 rfl) ?_
  refine g_objr K X 0 (by decide) rfl q361 dX7_mend_6 ?_
  refine lv_iload_n hx hb dX7_mend_9 rfl (lv_at hl 1 rfl) ?_
  obtain ⟨x2, ex2, h0⟩ := lt_out h0
  have kx2 := mC_X3_tubeAt l D ca ar ag P 0 G xs (by decide) a1 x2 ex2.symm H.size
  refine w_callV0 K X wC_fstx kx2 hl.1 1 q403 q404 q405 q88 q406 hv_X3_tubeAt ⟨⟨Nat.le_of_ble_eq_true rfl, Nat.le_of_ble_eq_true rfl⟩, rfl, rfl⟩ (pl_rowo (by decide)) rfl rfl rfl rfl (Nat.le_of_ble_eq_true rfl) dX7_mend_10 ⟨Nat.le_of_ble_eq_true rfl, Nat.le_of_ble_eq_true rfl⟩ rfl (fun H locs X => ?_)
  obtain ⟨j3, ej3, h0⟩ := lt_out h0
  rw [← ej3]
  have hj3 : j3 < 13 := by rw [ej3]; exact lt_X3_tubeAt ex2
  refine lv_astore_n (lv' := [(2, .ref (ar 0 (j3 + 5))), (0, .ref (ag 0)), (1, .int a1)]) hx hb dX7_mend_13 rfl hl (by decide) rfl (fun ls hl => ?_)
  refine lv_aload_n hx hb dX7_mend_14 rfl (lv_at hl 0 rfl) ?_
  refine g_tube K X (by decide) hj3 rfl 6 (by decide) q194 dX7_mend_15 ?_
  refine lv_if_ne (tgt := 24) hx hb dX7_mend_18 (by decide) (fun c4 => ?_) (fun c4 => ?_)
  · have h0 := if_f c4 h0
    refine lv_aload_n hx hb dX7_mend_24 rfl (lv_at hl 1 rfl) ?_
    refine g_objr K X 3 (by decide) rfl q364 dX7_mend_25 ?_
    refine lv_aload_n hx hb dX7_mend_28 rfl (lv_at hl 1 rfl) ?_
    refine g_objr K X 0 (by decide) rfl q361 dX7_mend_29 ?_
    obtain ⟨x5, ex5, h0⟩ := ob_out h0
    obtain ⟨Pv6, ePv6, h0⟩ := lt_out h0
    obtain ⟨Gv7, eGv7, h0⟩ := lt_out h0
    have kx5 := m_X0_keep l D ca ar ag n P G xs 0 (by decide) x5.1 x5.2 ex5 H.size
    rw [← ePv6, ← eGv7] at kx5
    refine w_callV0 K X wC_fstx kx5 hl.1 1 q987 q988 q989 q91 q990 hv_X0_keep ⟨⟨Nat.le_of_ble_eq_true rfl, Nat.le_of_ble_eq_true rfl⟩, rfl, rfl⟩ (pl_glb (k := 1) (by decide)) rfl rfl rfl rfl (Nat.le_of_ble_eq_true rfl) dX7_mend_32 ⟨Nat.le_of_ble_eq_true rfl, Nat.le_of_ble_eq_true rfl⟩ rfl (fun H locs X => ?_)
    refine lv_aload_n hx hb dX7_mend_35 rfl (lv_at hl 0 rfl) ?_
    refine lv_iconst (v := 0) hx hb dX7_mend_36 (by decide) ?_
    obtain ⟨Pv8, ePv8, h0⟩ := lt_out h0
    refine p_tube K X (by decide) hj3 6 (by decide) ePv8.symm q194 dX7_mend_37 (fun H locs X => ?_)
    refine lv_aload_n hx hb dX7_mend_40 rfl (lv_at hl 1 rfl) ?_
    refine g_objr K X 0 (by decide) rfl q361 dX7_mend_41 ?_
    obtain ⟨x9, ex9, h0⟩ := ob_out h0
    obtain ⟨Pv10, ePv10, h0⟩ := lt_out h0
    have kx9 := mC_X3_settle l D ca ar ag n Pv8 0 Gv7 xs (by decide) x9.1 x9.2 ex9 H.size
    rw [← ePv10] at kx9
    refine w_callV0 K X wC_fstx kx9 hl.1 0 q763 q764 q765 q88 q766 hv_X3_settle ⟨⟨Nat.le_of_ble_eq_true rfl, Nat.le_of_ble_eq_true rfl⟩, rfl, rfl⟩ (pl_rowo (by decide)) rfl rfl rfl rfl (Nat.le_of_ble_eq_true rfl) dX7_mend_44 ⟨Nat.le_of_ble_eq_true rfl, Nat.le_of_ble_eq_true rfl⟩ rfl (fun H locs X => ?_)
    refine lv_pop hx hb dX7_mend_47 rfl ?_
    refine lv_aload_n hx hb dX7_mend_48 rfl (lv_at hl 0 rfl) ?_
    refine g_tube K X (by decide) hj3 rfl 6 (by decide) q194 dX7_mend_49 ?_
    have h0 := Option.some.inj h0
    obtain ⟨q_0, h0⟩ := Prod.mk.inj h0
    obtain ⟨q_1, q_2⟩ := Prod.mk.inj h0
    subst q_0
    subst q_1
    subst q_2
    subst hQ
    exact w_iret K hr0 X wC_fstx hsz dX7_mend_52
  · have h0 := if_t c4 h0
    refine lv_bipush (v := (-2)) hx hb dX7_mend_21 (by decide) ?_
    have h0 := Option.some.inj h0
    obtain ⟨q_0, h0⟩ := Prod.mk.inj h0
    obtain ⟨q_1, q_2⟩ := Prod.mk.inj h0
    subst q_0
    subst q_1
    subst q_2
    subst hQ
    exact w_iret K hr0 X wC_fstx hsz dX7_mend_23
-- X7_refill
def f_X7_refill (n : Nat) (P : RowsS) (G : GlbS) (a1 : Int32) (a2 : Int32) : Option (Int32 × RowsS × GlbS) :=
  ob (f_X7_requireLeg a1) fun x1 =>
  ob (f_X7_requireWithin a2 1 99999999) fun x2 =>
  lt (f_X3_legAt (P 0) a1) fun x3 =>
  lt (x3) fun j4 =>
  if (((P 0).2 (j4 + 2) 5) + a2.toInt64) ≤ 2000000000 then
    ob (f_X0_keep n P G 0) fun x6 =>
    lt (x6.1) fun Pv7 =>
    lt (x6.2) fun Gv8 =>
    lt (va_up Pv7 0 (sl (Pv7 0) (j4 + 2) 3 (((Pv7 0).2 (j4 + 2) 3) + a2.toInt64))) fun Pv9 =>
    lt (va_up Pv9 0 (sl (Pv9 0) (j4 + 2) 5 (((Pv9 0).2 (j4 + 2) 5) + a2.toInt64))) fun Pv10 =>
    ob (f_X3_settle n (Pv10 0)) fun x11 =>
    lt (va_up Pv10 0 x11.2) fun Pv12 =>
    some (x11.1, Pv12, Gv8)
  else
    some ((-2), P, G)
abbrev rm_X7_refill : Room := { frames := 6, cells := 0, slots := 0, locals := 166 }
set_option maxRecDepth 100000 in
set_option maxHeartbeats 4000000 in
theorem m_X7_refill (l : Launch) (D : va_G) (ca : Nat → ClassId) (ar : Nat → Nat → Nat) (ag : Nat → Nat) (z : ZG) (n : Nat) (P : RowsS) (G : GlbS) (xs : va_W) (a1 : Int32) (a2 : Int32) (res : Int32) (P' : RowsS) (G' : GlbS) (h0 : f_X7_refill n P G a1 a2 = some (res, P', G')) (sz : Nat) : Met l yX7_refill (ws_ yX7_refill cX7_refill 4 (some .int)) rm_X7_refill (PCz z D ca (wC ar ag ca P G ++ xs) sz [.ref (ag 0), .int a1, .int a2]) (QMw D (wC ar ag ca P G ++ xs) (wC ar ag ca (P') (G') ++ xs) sz (some (.int res))) 0 0 (AL (wC ar ag ca P G ++ xs) sz) := by
  refine met_z (by decide +kernel) (Nat.le_of_ble_eq_true rfl) (fun p e s m args below meth c K hr0 hZ X hsz ls hl => ?_)
  have K : MC D ca p s m args meth c cX7_refill 4 RX7 := K
  have hx := K.1
  have hb := K.2.1
  have hl : lv_has ls 4 [(0, .ref (ag 0)), (1, .int a1), (2, .int a2)] := hl
  generalize hQ : MQ below _ args s 0 0 _ = Q
  unfold f_X7_refill at h0
  suffices Z : ∀ (H : Heap) (locs : List Loc) (X : RW D (wC ar ag ca P G ++ xs) s.heap H locs), W p l e rm_X7_refill s m args below meth c H locs 0 0 Q (F0 m 0 ls []) from Z _ _ X
  intro H locs X
  refine lv_iload_n hx hb dX7_refill_0 rfl (lv_at hl 1 rfl) ?_
  obtain ⟨x1, ex1, h0⟩ := ob_out h0
  have kx1 := m_X7_requireLeg l D ca z (wC ar ag ca P G ++ xs) a1  ex1 H.size
  refine z_callS K hZ X wC_fstx wC_fstx kx1 hl.1 1 q864 q865 q87 q866 hs_X7_requireLeg ⟨⟨Nat.le_of_ble_eq_true rfl, Nat.le_of_ble_eq_true rfl⟩, rfl, rfl⟩ rfl rfl (Nat.le_of_ble_eq_true rfl) dX7_refill_1 ⟨Nat.le_of_ble_eq_true rfl, Nat.le_of_ble_eq_true rfl⟩ rfl (fun H locs X => ?_)
  refine lv_iload_n hx hb dX7_refill_4 rfl (lv_at hl 2 rfl) ?_
  refine lv_iconst (v := 1) hx hb dX7_refill_5 (by decide) ?_
  refine lv_ldc hx hb K.2.2.2.1 (K.2.2.2.2.1 _ q1041) dX7_refill_6 ?_
  obtain ⟨x2, ex2, h0⟩ := ob_out h0
  have kx2 := m_X7_requireWithin l D ca z (wC ar ag ca P G ++ xs) a2 1 99999999  ex2 H.size
  refine z_callS K hZ X wC_fstx wC_fstx kx2 hl.1 3 q557 q558 q87 q559 hs_X7_requireWithin ⟨⟨Nat.le_of_ble_eq_true rfl, Nat.le_of_ble_eq_true rfl⟩, rfl, rfl⟩ rfl rfl (Nat.le_of_ble_eq_true rfl) dX7_refill_8 ⟨Nat.le_of_ble_eq_true rfl, Nat.le_of_ble_eq_true rfl⟩ rfl (fun H locs X => ?_)
  refine lv_aload_n hx hb dX7_refill_11 rfl (lv_at hl 0 rfl) ?_
  refine g_objr K X 0 (by decide) rfl q361 dX7_refill_12 ?_
  refine lv_iload_n hx hb dX7_refill_15 rfl (lv_at hl 1 rfl) ?_
  obtain ⟨x3, ex3, h0⟩ := lt_out h0
  have kx3 := mC_X3_legAt l D ca ar ag P 0 G xs (by decide) a1 x3 ex3.symm H.size
  refine w_callV0 K X wC_fstx kx3 hl.1 1 q868 q416 q417 q88 q418 hv_X3_legAt ⟨⟨Nat.le_of_ble_eq_true rfl, Nat.le_of_ble_eq_true rfl⟩, rfl, rfl⟩ (pl_rowo (by decide)) rfl rfl rfl rfl (Nat.le_of_ble_eq_true rfl) dX7_refill_16 ⟨Nat.le_of_ble_eq_true rfl, Nat.le_of_ble_eq_true rfl⟩ rfl (fun H locs X => ?_)
  obtain ⟨j4, ej4, h0⟩ := lt_out h0
  rw [← ej4]
  have hj4 : j4 < 2 := by rw [ej4]; exact lt_X3_legAt ex3
  refine lv_astore_n (lv' := [(3, .ref (ar 0 (j4 + 2))), (0, .ref (ag 0)), (1, .int a1), (2, .int a2)]) hx hb dX7_refill_19 rfl hl (by decide) rfl (fun ls hl => ?_)
  refine lv_aload_n hx hb dX7_refill_20 rfl (lv_at hl 0 rfl) ?_
  refine g_legl K X (by decide) hj4 rfl 5 (by decide) q149 dX7_refill_21 ?_
  refine lv_iload_n hx hb dX7_refill_24 rfl (lv_at hl 3 rfl) ?_
  refine lv_i2l hx hb dX7_refill_25 rfl ?_
  refine lv_ladd hx hb dX7_refill_26 ?_
  refine lv_ldc2 hx hb K.2.2.2.1 (K.2.2.2.2.1 _ q1042) dX7_refill_27 ?_
  refine w_ble (tgt := 37) K dX7_refill_30 dX7_refill_31 (by decide) (fun c5 => ?_) (fun c5 => ?_)
  · have h0 := if_t c5 h0
    refine lv_aload_n hx hb dX7_refill_37 rfl (lv_at hl 1 rfl) ?_
    refine g_objr K X 3 (by decide) rfl q364 dX7_refill_38 ?_
    refine lv_aload_n hx hb dX7_refill_41 rfl (lv_at hl 1 rfl) ?_
    refine g_objr K X 0 (by decide) rfl q361 dX7_refill_42 ?_
    obtain ⟨x6, ex6, h0⟩ := ob_out h0
    obtain ⟨Pv7, ePv7, h0⟩ := lt_out h0
    obtain ⟨Gv8, eGv8, h0⟩ := lt_out h0
    have kx6 := m_X0_keep l D ca ar ag n P G xs 0 (by decide) x6.1 x6.2 ex6 H.size
    rw [← ePv7, ← eGv8] at kx6
    refine w_callV0 K X wC_fstx kx6 hl.1 1 q987 q988 q989 q91 q990 hv_X0_keep ⟨⟨Nat.le_of_ble_eq_true rfl, Nat.le_of_ble_eq_true rfl⟩, rfl, rfl⟩ (pl_glb (k := 1) (by decide)) rfl rfl rfl rfl (Nat.le_of_ble_eq_true rfl) dX7_refill_45 ⟨Nat.le_of_ble_eq_true rfl, Nat.le_of_ble_eq_true rfl⟩ rfl (fun H locs X => ?_)
    refine lv_aload_n hx hb dX7_refill_48 rfl (lv_at hl 0 rfl) ?_
    refine lv_dup hx hb dX7_refill_49 rfl ?_
    refine g_legl K X (by decide) hj4 rfl 3 (by decide) q143 dX7_refill_50 ?_
    refine lv_iload_n hx hb dX7_refill_53 rfl (lv_at hl 3 rfl) ?_
    refine lv_i2l hx hb dX7_refill_54 rfl ?_
    refine lv_ladd hx hb dX7_refill_55 ?_
    obtain ⟨Pv9, ePv9, h0⟩ := lt_out h0
    refine p_legl K X (by decide) hj4 3 (by decide) ePv9.symm q143 dX7_refill_56 (fun H locs X => ?_)
    refine lv_aload_n hx hb dX7_refill_59 rfl (lv_at hl 0 rfl) ?_
    refine lv_dup hx hb dX7_refill_60 rfl ?_
    refine g_legl K X (by decide) hj4 rfl 5 (by decide) q149 dX7_refill_61 ?_
    refine lv_iload_n hx hb dX7_refill_64 rfl (lv_at hl 3 rfl) ?_
    refine lv_i2l hx hb dX7_refill_65 rfl ?_
    refine lv_ladd hx hb dX7_refill_66 ?_
    obtain ⟨Pv10, ePv10, h0⟩ := lt_out h0
    refine p_legl K X (by decide) hj4 5 (by decide) ePv10.symm q149 dX7_refill_67 (fun H locs X => ?_)
    refine lv_aload_n hx hb dX7_refill_70 rfl (lv_at hl 1 rfl) ?_
    refine g_objr K X 0 (by decide) rfl q361 dX7_refill_71 ?_
    obtain ⟨x11, ex11, h0⟩ := ob_out h0
    obtain ⟨Pv12, ePv12, h0⟩ := lt_out h0
    have kx11 := mC_X3_settle l D ca ar ag n Pv10 0 Gv8 xs (by decide) x11.1 x11.2 ex11 H.size
    rw [← ePv12] at kx11
    refine w_callV0 K X wC_fstx kx11 hl.1 0 q763 q764 q765 q88 q766 hv_X3_settle ⟨⟨Nat.le_of_ble_eq_true rfl, Nat.le_of_ble_eq_true rfl⟩, rfl, rfl⟩ (pl_rowo (by decide)) rfl rfl rfl rfl (Nat.le_of_ble_eq_true rfl) dX7_refill_74 ⟨Nat.le_of_ble_eq_true rfl, Nat.le_of_ble_eq_true rfl⟩ rfl (fun H locs X => ?_)
    have h0 := Option.some.inj h0
    obtain ⟨q_0, h0⟩ := Prod.mk.inj h0
    obtain ⟨q_1, q_2⟩ := Prod.mk.inj h0
    subst q_0
    subst q_1
    subst q_2
    subst hQ
    exact w_iret K hr0 X wC_fstx hsz dX7_refill_77
  · have h0 := if_f c5 h0
    refine lv_bipush (v := (-2)) hx hb dX7_refill_34 (by decide) ?_
    have h0 := Option.some.inj h0
    obtain ⟨q_0, h0⟩ := Prod.mk.inj h0
    obtain ⟨q_1, q_2⟩ := Prod.mk.inj h0
    subst q_0
    subst q_1
    subst q_2
    subst hQ
    exact w_iret K hr0 X wC_fstx hsz dX7_refill_36
-- X7_addTube
def f_X7_addTube (n : Nat) (P : RowsS) (G : GlbS) (a1 : Int32) (a2 : Int32) (a3 : Int32) (a4 : Int32) (a5 : Int32) : Option (Int32 × RowsS × GlbS) :=
  ob (f_X7_requireLeg a1) fun x1 =>
  ob (f_X7_requirePoint P G a2) fun x2 =>
  ob (f_X7_requireWithin a3 1 20) fun x3 =>
  ob (f_X7_requireWithin a4 50 1000) fun x4 =>
  ob (f_X7_requireWithin a5 10 2000) fun x5 =>
  if ((P 0).1 0 2) < 12 then
    ob (f_X0_keep n P G 0) fun x7 =>
    lt (x7.1) fun Pv8 =>
    lt (x7.2) fun Gv9 =>
    lt (f_X3_append (Pv8 0)) fun x10 =>
    lt (va_up Pv8 0 x10.2) fun Pv11 =>
    lt (x10.1) fun j12 =>
    lt (f_X6_stand ((Pv11 0).1 (j12 + 5)) a1 a2) fun x13 =>
    lt (upT Pv11 0 (j12 + 5) x13) fun Pv14 =>
    lt (f_X6_shape ((Pv14 0).1 (j12 + 5)) a3 a4 a5) fun x15 =>
    lt (upT Pv14 0 (j12 + 5) x15) fun Pv16 =>
    ob (f_X3_settle n (Pv16 0)) fun x17 =>
    lt (va_up Pv16 0 x17.2) fun Pv18 =>
    some ((((Pv18 0).1 0 2) - 1), Pv18, Gv9)
  else
    some ((-2), P, G)
abbrev rm_X7_addTube : Room := { frames := 6, cells := 0, slots := 0, locals := 166 }
set_option maxRecDepth 100000 in
set_option maxHeartbeats 4000000 in
theorem m_X7_addTube (l : Launch) (D : va_G) (ca : Nat → ClassId) (ar : Nat → Nat → Nat) (ag : Nat → Nat) (z : ZG) (n : Nat) (P : RowsS) (G : GlbS) (xs : va_W) (a1 : Int32) (a2 : Int32) (a3 : Int32) (a4 : Int32) (a5 : Int32) (res : Int32) (P' : RowsS) (G' : GlbS) (h0 : f_X7_addTube n P G a1 a2 a3 a4 a5 = some (res, P', G')) (sz : Nat) : Met l yX7_addTube (ws_ yX7_addTube cX7_addTube 7 (some .int)) rm_X7_addTube (PCz z D ca (wC ar ag ca P G ++ xs) sz [.ref (ag 0), .int a1, .int a2, .int a3, .int a4, .int a5]) (QMw D (wC ar ag ca P G ++ xs) (wC ar ag ca (P') (G') ++ xs) sz (some (.int res))) 0 0 (AL (wC ar ag ca P G ++ xs) sz) := by
  refine met_z (by decide +kernel) (Nat.le_of_ble_eq_true rfl) (fun p e s m args below meth c K hr0 hZ X hsz ls hl => ?_)
  have K : MC D ca p s m args meth c cX7_addTube 7 RX7 := K
  have hx := K.1
  have hb := K.2.1
  have hl : lv_has ls 7 [(0, .ref (ag 0)), (1, .int a1), (2, .int a2), (3, .int a3), (4, .int a4), (5, .int a5)] := hl
  generalize hQ : MQ below _ args s 0 0 _ = Q
  unfold f_X7_addTube at h0
  suffices Z : ∀ (H : Heap) (locs : List Loc) (X : RW D (wC ar ag ca P G ++ xs) s.heap H locs), W p l e rm_X7_addTube s m args below meth c H locs 0 0 Q (F0 m 0 ls []) from Z _ _ X
  intro H locs X
  refine lv_iload_n hx hb dX7_addTube_0 rfl (lv_at hl 1 rfl) ?_
  obtain ⟨x1, ex1, h0⟩ := ob_out h0
  have kx1 := m_X7_requireLeg l D ca z (wC ar ag ca P G ++ xs) a1  ex1 H.size
  refine z_callS K hZ X wC_fstx wC_fstx kx1 hl.1 1 q864 q865 q87 q866 hs_X7_requireLeg ⟨⟨Nat.le_of_ble_eq_true rfl, Nat.le_of_ble_eq_true rfl⟩, rfl, rfl⟩ rfl rfl (Nat.le_of_ble_eq_true rfl) dX7_addTube_1 ⟨Nat.le_of_ble_eq_true rfl, Nat.le_of_ble_eq_true rfl⟩ rfl (fun H locs X => ?_)
  refine lv_aload_n hx hb dX7_addTube_4 rfl (lv_at hl 0 rfl) ?_
  refine lv_iload_n hx hb dX7_addTube_5 rfl (lv_at hl 2 rfl) ?_
  obtain ⟨x2, ex2, h0⟩ := ob_out h0
  have kx2 := m_X7_requirePoint l D ca ar ag z P G xs a2  ex2 H.size
  refine z_callV K hZ X wC_fstx wC_fstx kx2 hl.1 1 q851 q853 q9 q87 q854 hv_X7_requirePoint ⟨⟨Nat.le_of_ble_eq_true rfl, Nat.le_of_ble_eq_true rfl⟩, rfl, rfl⟩ (z_recvw K X (pl_glb (k := 0) (by decide)) rfl rfl) rfl rfl (Nat.le_of_ble_eq_true rfl) dX7_addTube_6 ⟨Nat.le_of_ble_eq_true rfl, Nat.le_of_ble_eq_true rfl⟩ rfl (fun H locs X => ?_)
  refine lv_iload_n hx hb dX7_addTube_9 rfl (lv_at hl 3 rfl) ?_
  refine lv_iconst (v := 1) hx hb dX7_addTube_10 (by decide) ?_
  refine lv_bipush (v := 20) hx hb dX7_addTube_11 (by decide) ?_
  obtain ⟨x3, ex3, h0⟩ := ob_out h0
  have kx3 := m_X7_requireWithin l D ca z (wC ar ag ca P G ++ xs) a3 1 20  ex3 H.size
  refine z_callS K hZ X wC_fstx wC_fstx kx3 hl.1 3 q557 q558 q87 q559 hs_X7_requireWithin ⟨⟨Nat.le_of_ble_eq_true rfl, Nat.le_of_ble_eq_true rfl⟩, rfl, rfl⟩ rfl rfl (Nat.le_of_ble_eq_true rfl) dX7_addTube_13 ⟨Nat.le_of_ble_eq_true rfl, Nat.le_of_ble_eq_true rfl⟩ rfl (fun H locs X => ?_)
  refine lv_iload hx hb dX7_addTube_16 (lv_at hl 4 rfl) ?_
  refine lv_bipush (v := 50) hx hb dX7_addTube_18 (by decide) ?_
  refine lv_sipush (v := 1000) hx hb dX7_addTube_20 (by decide) ?_
  obtain ⟨x4, ex4, h0⟩ := ob_out h0
  have kx4 := m_X7_requireWithin l D ca z (wC ar ag ca P G ++ xs) a4 50 1000  ex4 H.size
  refine z_callS K hZ X wC_fstx wC_fstx kx4 hl.1 3 q557 q558 q87 q559 hs_X7_requireWithin ⟨⟨Nat.le_of_ble_eq_true rfl, Nat.le_of_ble_eq_true rfl⟩, rfl, rfl⟩ rfl rfl (Nat.le_of_ble_eq_true rfl) dX7_addTube_23 ⟨Nat.le_of_ble_eq_true rfl, Nat.le_of_ble_eq_true rfl⟩ rfl (fun H locs X => ?_)
  refine lv_iload hx hb dX7_addTube_26 (lv_at hl 5 rfl) ?_
  refine lv_bipush (v := 10) hx hb dX7_addTube_28 (by decide) ?_
  refine lv_sipush (v := 2000) hx hb dX7_addTube_30 (by decide) ?_
  obtain ⟨x5, ex5, h0⟩ := ob_out h0
  have kx5 := m_X7_requireWithin l D ca z (wC ar ag ca P G ++ xs) a5 10 2000  ex5 H.size
  refine z_callS K hZ X wC_fstx wC_fstx kx5 hl.1 3 q557 q558 q87 q559 hs_X7_requireWithin ⟨⟨Nat.le_of_ble_eq_true rfl, Nat.le_of_ble_eq_true rfl⟩, rfl, rfl⟩ rfl rfl (Nat.le_of_ble_eq_true rfl) dX7_addTube_33 ⟨Nat.le_of_ble_eq_true rfl, Nat.le_of_ble_eq_true rfl⟩ rfl (fun H locs X => ?_)
  refine lv_aload_n hx hb dX7_addTube_36 rfl (lv_at hl 0 rfl) ?_
  refine g_objr K X 0 (by decide) rfl q361 dX7_addTube_37 ?_
  refine g_rowi K X (by decide) rfl 2 (by decide) q231 dX7_addTube_40 ?_
  refine lv_bipush (v := 12) hx hb dX7_addTube_43 (by decide) ?_
  refine lv_icmp_lt (tgt := 51) hx hb dX7_addTube_45 (by decide) (fun c6 => ?_) (fun c6 => ?_)
  · have h0 := if_t c6 h0
    refine lv_aload_n hx hb dX7_addTube_51 rfl (lv_at hl 0 rfl) ?_
    refine g_objr K X 3 (by decide) rfl q364 dX7_addTube_52 ?_
    refine lv_aload_n hx hb dX7_addTube_55 rfl (lv_at hl 0 rfl) ?_
    refine g_objr K X 0 (by decide) rfl q361 dX7_addTube_56 ?_
    obtain ⟨x7, ex7, h0⟩ := ob_out h0
    obtain ⟨Pv8, ePv8, h0⟩ := lt_out h0
    obtain ⟨Gv9, eGv9, h0⟩ := lt_out h0
    have kx7 := m_X0_keep l D ca ar ag n P G xs 0 (by decide) x7.1 x7.2 ex7 H.size
    rw [← ePv8, ← eGv9] at kx7
    refine w_callV0 K X wC_fstx kx7 hl.1 1 q987 q988 q989 q91 q990 hv_X0_keep ⟨⟨Nat.le_of_ble_eq_true rfl, Nat.le_of_ble_eq_true rfl⟩, rfl, rfl⟩ (pl_glb (k := 1) (by decide)) rfl rfl rfl rfl (Nat.le_of_ble_eq_true rfl) dX7_addTube_59 ⟨Nat.le_of_ble_eq_true rfl, Nat.le_of_ble_eq_true rfl⟩ rfl (fun H locs X => ?_)
    refine lv_aload_n hx hb dX7_addTube_62 rfl (lv_at hl 0 rfl) ?_
    refine g_objr K X 0 (by decide) rfl q361 dX7_addTube_63 ?_
    obtain ⟨x10, ex10, h0⟩ := lt_out h0
    obtain ⟨Pv11, ePv11, h0⟩ := lt_out h0
    have kx10 := mC_X3_append l D ca ar ag Pv8 0 Gv9 xs (by decide) x10.1 x10.2 ex10.symm H.size
    rw [← ePv11] at kx10
    refine w_callV0 K X wC_fstx kx10 hl.1 0 q1050 q748 q749 q88 q750 hv_X3_append ⟨⟨Nat.le_of_ble_eq_true rfl, Nat.le_of_ble_eq_true rfl⟩, rfl, rfl⟩ (pl_rowo (by decide)) rfl rfl rfl rfl (Nat.le_of_ble_eq_true rfl) dX7_addTube_66 ⟨Nat.le_of_ble_eq_true rfl, Nat.le_of_ble_eq_true rfl⟩ rfl (fun H locs X => ?_)
    obtain ⟨j12, ej12, h0⟩ := lt_out h0
    rw [← ej12]
    have hj12 : j12 < 13 := by rw [ej12]; exact lt_X3_append ex10
    refine lv_astore (lv' := [(6, .ref (ar 0 (j12 + 5))), (0, .ref (ag 0)), (1, .int a1), (2, .int a2), (3, .int a3), (4, .int a4), (5, .int a5)]) hx hb dX7_addTube_69 hl (by decide) rfl (fun ls hl => ?_)
    refine lv_aload hx hb dX7_addTube_71 (lv_at hl 0 rfl) ?_
    refine lv_iload_n hx hb dX7_addTube_73 rfl (lv_at hl 2 rfl) ?_
    refine lv_iload_n hx hb dX7_addTube_74 rfl (lv_at hl 3 rfl) ?_
    obtain ⟨x13, ex13, h0⟩ := lt_out h0
    obtain ⟨Pv14, ePv14, h0⟩ := lt_out h0
    have kx13 := mC_X6_stand l D ca ar ag Pv11 0 j12 Gv9 xs (by decide) hj12 a1 a2 x13 ex13.symm H.size
    rw [← ePv14] at kx13
    refine w_callV0 K X wC_fstx kx13 hl.1 2 q1051 q529 q530 q90 q531 hv_X6_stand ⟨⟨Nat.le_of_ble_eq_true rfl, Nat.le_of_ble_eq_true rfl⟩, rfl, rfl⟩ (pl_tube (by decide) hj12) rfl rfl rfl rfl (Nat.le_of_ble_eq_true rfl) dX7_addTube_75 ⟨Nat.le_of_ble_eq_true rfl, Nat.le_of_ble_eq_true rfl⟩ rfl (fun H locs X => ?_)
    refine lv_aload hx hb dX7_addTube_78 (lv_at hl 0 rfl) ?_
    refine lv_iload_n hx hb dX7_addTube_80 rfl (lv_at hl 4 rfl) ?_
    refine lv_iload hx hb dX7_addTube_81 (lv_at hl 5 rfl) ?_
    refine lv_iload hx hb dX7_addTube_83 (lv_at hl 6 rfl) ?_
    obtain ⟨x15, ex15, h0⟩ := lt_out h0
    obtain ⟨Pv16, ePv16, h0⟩ := lt_out h0
    have kx15 := mC_X6_shape l D ca ar ag Pv14 0 j12 Gv9 xs (by decide) hj12 a3 a4 a5 x15 ex15.symm H.size
    rw [← ePv16] at kx15
    refine w_callV0 K X wC_fstx kx15 hl.1 3 q1052 q533 q534 q90 q535 hv_X6_shape ⟨⟨Nat.le_of_ble_eq_true rfl, Nat.le_of_ble_eq_true rfl⟩, rfl, rfl⟩ (pl_tube (by decide) hj12) rfl rfl rfl rfl (Nat.le_of_ble_eq_true rfl) dX7_addTube_85 ⟨Nat.le_of_ble_eq_true rfl, Nat.le_of_ble_eq_true rfl⟩ rfl (fun H locs X => ?_)
    refine lv_aload_n hx hb dX7_addTube_88 rfl (lv_at hl 1 rfl) ?_
    refine g_objr K X 0 (by decide) rfl q361 dX7_addTube_89 ?_
    obtain ⟨x17, ex17, h0⟩ := ob_out h0
    obtain ⟨Pv18, ePv18, h0⟩ := lt_out h0
    have kx17 := mC_X3_settle l D ca ar ag n Pv16 0 Gv9 xs (by decide) x17.1 x17.2 ex17 H.size
    rw [← ePv18] at kx17
    refine w_callV0 K X wC_fstx kx17 hl.1 0 q763 q764 q765 q88 q766 hv_X3_settle ⟨⟨Nat.le_of_ble_eq_true rfl, Nat.le_of_ble_eq_true rfl⟩, rfl, rfl⟩ (pl_rowo (by decide)) rfl rfl rfl rfl (Nat.le_of_ble_eq_true rfl) dX7_addTube_92 ⟨Nat.le_of_ble_eq_true rfl, Nat.le_of_ble_eq_true rfl⟩ rfl (fun H locs X => ?_)
    refine lv_pop hx hb dX7_addTube_95 rfl ?_
    refine lv_aload_n hx hb dX7_addTube_96 rfl (lv_at hl 1 rfl) ?_
    refine g_objr K X 0 (by decide) rfl q361 dX7_addTube_97 ?_
    refine g_rowi K X (by decide) rfl 2 (by decide) q231 dX7_addTube_100 ?_
    refine lv_iconst (v := 1) hx hb dX7_addTube_103 (by decide) ?_
    refine lv_isub hx hb dX7_addTube_104 ?_
    have h0 := Option.some.inj h0
    obtain ⟨q_0, h0⟩ := Prod.mk.inj h0
    obtain ⟨q_1, q_2⟩ := Prod.mk.inj h0
    subst q_0
    subst q_1
    subst q_2
    subst hQ
    exact w_iret K hr0 X wC_fstx hsz dX7_addTube_105
  · have h0 := if_f c6 h0
    refine lv_bipush (v := (-2)) hx hb dX7_addTube_48 (by decide) ?_
    have h0 := Option.some.inj h0
    obtain ⟨q_0, h0⟩ := Prod.mk.inj h0
    obtain ⟨q_1, q_2⟩ := Prod.mk.inj h0
    subst q_0
    subst q_1
    subst q_2
    subst hQ
    exact w_iret K hr0 X wC_fstx hsz dX7_addTube_50
-- X7_dropTube
def f_X7_dropTube (n : Nat) (P : RowsS) (G : GlbS) (a1 : Int32) : Option (Int32 × RowsS × GlbS) :=
  ob (f_X7_requireTube P G a1) fun x1 =>
  ob (f_X0_keep n P G 0) fun x2 =>
  lt (x2.1) fun Pv3 =>
  lt (x2.2) fun Gv4 =>
  ob (f_X3_remove n (Pv3 0) a1) fun x5 =>
  lt (va_up Pv3 0 x5) fun Pv6 =>
  ob (f_X3_settle n (Pv6 0)) fun x7 =>
  lt (va_up Pv6 0 x7.2) fun Pv8 =>
  some (((Pv8 0).1 0 2), Pv8, Gv4)
abbrev rm_X7_dropTube : Room := { frames := 6, cells := 0, slots := 0, locals := 166 }
set_option maxRecDepth 100000 in
set_option maxHeartbeats 4000000 in
theorem m_X7_dropTube (l : Launch) (D : va_G) (ca : Nat → ClassId) (ar : Nat → Nat → Nat) (ag : Nat → Nat) (z : ZG) (n : Nat) (P : RowsS) (G : GlbS) (xs : va_W) (a1 : Int32) (res : Int32) (P' : RowsS) (G' : GlbS) (h0 : f_X7_dropTube n P G a1 = some (res, P', G')) (sz : Nat) : Met l yX7_dropTube (ws_ yX7_dropTube cX7_dropTube 2 (some .int)) rm_X7_dropTube (PCz z D ca (wC ar ag ca P G ++ xs) sz [.ref (ag 0), .int a1]) (QMw D (wC ar ag ca P G ++ xs) (wC ar ag ca (P') (G') ++ xs) sz (some (.int res))) 0 0 (AL (wC ar ag ca P G ++ xs) sz) := by
  refine met_z (by decide +kernel) (Nat.le_of_ble_eq_true rfl) (fun p e s m args below meth c K hr0 hZ X hsz ls hl => ?_)
  have K : MC D ca p s m args meth c cX7_dropTube 2 RX7 := K
  have hx := K.1
  have hb := K.2.1
  have hl : lv_has ls 2 [(0, .ref (ag 0)), (1, .int a1)] := hl
  generalize hQ : MQ below _ args s 0 0 _ = Q
  unfold f_X7_dropTube at h0
  suffices Z : ∀ (H : Heap) (locs : List Loc) (X : RW D (wC ar ag ca P G ++ xs) s.heap H locs), W p l e rm_X7_dropTube s m args below meth c H locs 0 0 Q (F0 m 0 ls []) from Z _ _ X
  intro H locs X
  refine lv_aload_n hx hb dX7_dropTube_0 rfl (lv_at hl 0 rfl) ?_
  refine lv_iload_n hx hb dX7_dropTube_1 rfl (lv_at hl 1 rfl) ?_
  obtain ⟨x1, ex1, h0⟩ := ob_out h0
  have kx1 := m_X7_requireTube l D ca ar ag z P G xs a1  ex1 H.size
  refine z_callV K hZ X wC_fstx wC_fstx kx1 hl.1 1 q886 q888 q10 q87 q889 hv_X7_requireTube ⟨⟨Nat.le_of_ble_eq_true rfl, Nat.le_of_ble_eq_true rfl⟩, rfl, rfl⟩ (z_recvw K X (pl_glb (k := 0) (by decide)) rfl rfl) rfl rfl (Nat.le_of_ble_eq_true rfl) dX7_dropTube_2 ⟨Nat.le_of_ble_eq_true rfl, Nat.le_of_ble_eq_true rfl⟩ rfl (fun H locs X => ?_)
  refine lv_aload_n hx hb dX7_dropTube_5 rfl (lv_at hl 0 rfl) ?_
  refine g_objr K X 3 (by decide) rfl q364 dX7_dropTube_6 ?_
  refine lv_aload_n hx hb dX7_dropTube_9 rfl (lv_at hl 0 rfl) ?_
  refine g_objr K X 0 (by decide) rfl q361 dX7_dropTube_10 ?_
  obtain ⟨x2, ex2, h0⟩ := ob_out h0
  obtain ⟨Pv3, ePv3, h0⟩ := lt_out h0
  obtain ⟨Gv4, eGv4, h0⟩ := lt_out h0
  have kx2 := m_X0_keep l D ca ar ag n P G xs 0 (by decide) x2.1 x2.2 ex2 H.size
  rw [← ePv3, ← eGv4] at kx2
  refine w_callV0 K X wC_fstx kx2 hl.1 1 q987 q988 q989 q91 q990 hv_X0_keep ⟨⟨Nat.le_of_ble_eq_true rfl, Nat.le_of_ble_eq_true rfl⟩, rfl, rfl⟩ (pl_glb (k := 1) (by decide)) rfl rfl rfl rfl (Nat.le_of_ble_eq_true rfl) dX7_dropTube_13 ⟨Nat.le_of_ble_eq_true rfl, Nat.le_of_ble_eq_true rfl⟩ rfl (fun H locs X => ?_)
  refine lv_aload_n hx hb dX7_dropTube_16 rfl (lv_at hl 0 rfl) ?_
  refine g_objr K X 0 (by decide) rfl q361 dX7_dropTube_17 ?_
  refine lv_iload_n hx hb dX7_dropTube_20 rfl (lv_at hl 1 rfl) ?_
  obtain ⟨x5, ex5, h0⟩ := ob_out h0
  obtain ⟨Pv6, ePv6, h0⟩ := lt_out h0
  have kx5 := mC_X3_remove l D ca ar ag n Pv3 0 Gv4 xs (by decide) a1 x5 ex5 H.size
  rw [← ePv6] at kx5
  refine w_callV0 K X wC_fstx kx5 hl.1 1 q1060 q1061 q1062 q88 q1063 hv_X3_remove ⟨⟨Nat.le_of_ble_eq_true rfl, Nat.le_of_ble_eq_true rfl⟩, rfl, rfl⟩ (pl_rowo (by decide)) rfl rfl rfl rfl (Nat.le_of_ble_eq_true rfl) dX7_dropTube_21 ⟨Nat.le_of_ble_eq_true rfl, Nat.le_of_ble_eq_true rfl⟩ rfl (fun H locs X => ?_)
  refine lv_aload_n hx hb dX7_dropTube_24 rfl (lv_at hl 0 rfl) ?_
  refine g_objr K X 0 (by decide) rfl q361 dX7_dropTube_25 ?_
  obtain ⟨x7, ex7, h0⟩ := ob_out h0
  obtain ⟨Pv8, ePv8, h0⟩ := lt_out h0
  have kx7 := mC_X3_settle l D ca ar ag n Pv6 0 Gv4 xs (by decide) x7.1 x7.2 ex7 H.size
  rw [← ePv8] at kx7
  refine w_callV0 K X wC_fstx kx7 hl.1 0 q763 q764 q765 q88 q766 hv_X3_settle ⟨⟨Nat.le_of_ble_eq_true rfl, Nat.le_of_ble_eq_true rfl⟩, rfl, rfl⟩ (pl_rowo (by decide)) rfl rfl rfl rfl (Nat.le_of_ble_eq_true rfl) dX7_dropTube_28 ⟨Nat.le_of_ble_eq_true rfl, Nat.le_of_ble_eq_true rfl⟩ rfl (fun H locs X => ?_)
  refine lv_pop hx hb dX7_dropTube_31 rfl ?_
  refine lv_aload_n hx hb dX7_dropTube_32 rfl (lv_at hl 0 rfl) ?_
  refine g_objr K X 0 (by decide) rfl q361 dX7_dropTube_33 ?_
  refine g_rowi K X (by decide) rfl 2 (by decide) q231 dX7_dropTube_36 ?_
  have h0 := Option.some.inj h0
  obtain ⟨q_0, h0⟩ := Prod.mk.inj h0
  obtain ⟨q_1, q_2⟩ := Prod.mk.inj h0
  subst q_0
  subst q_1
  subst q_2
  subst hQ
  exact w_iret K hr0 X wC_fstx hsz dX7_dropTube_39
-- X7_format
def b_X7_format_135  (G_135 : GlbS) : Option (Int32 × GlbS) :=
  lt (f_J4_length_8abf5 G_135) fun x22 =>
  some (x22, G_135)
def b_X7_format_131  (y131_s1 : Nat) (G_131 : GlbS) : Option (Int32 × GlbS) :=
  ob (f_J4_append_15ec4 G_131 y131_s1) fun x20 =>
  lt (x20) fun Gv21 =>
  b_X7_format_135 Gv21
def f_X7_format (n : Nat) (P : RowsS) (G : GlbS) (a1 : Int32) : Option (Int32 × GlbS) :=
  ob (f_X7_requireTube P G a1) fun x1 =>
  lt (f_X3_tubeAt (P 0) a1) fun x2 =>
  lt (x2) fun j3 =>
  ob (f_J4_setLength_d00df G 0) fun x4 =>
  lt (x4) fun Gv5 =>
  ob (f_J4_append_bf812 n Gv5 ((P 0).1 (j3 + 5) 0)) fun x6 =>
  lt (x6) fun Gv7 =>
  ob (f_J4_append_cf468 Gv7 47) fun x8 =>
  lt (x8) fun Gv9 =>
  ob (f_J4_append_bf812 n Gv9 ((P 0).1 (j3 + 5) 1)) fun x10 =>
  lt (x10) fun Gv11 =>
  ob (f_J4_append_cf468 Gv11 32) fun x12 =>
  lt (x12) fun Gv13 =>
  ob (f_J4_append_bf812 n Gv13 ((P 0).1 (j3 + 5) 3)) fun x14 =>
  lt (x14) fun Gv15 =>
  ob (f_J4_append_cf468 Gv15 32) fun x16 =>
  lt (x16) fun Gv17 =>
  if ((P 0).1 (j3 + 5) 6) = 0 then
    lt (f_X6_shownReading ((P 0).1 (j3 + 5))) fun x23 =>
    ob (f_J4_append_bf812 n Gv17 x23) fun x24 =>
    lt (x24) fun Gv25 =>
    b_X7_format_135 Gv25
  else
    if ((P 0).1 (j3 + 5) 6) = 1 then
      b_X7_format_131 17 Gv17
    else
      b_X7_format_131 18 Gv17
abbrev rm_X7_format : Room := { frames := 5, cells := 0, slots := 0, locals := 208 }
set_option maxRecDepth 100000 in
set_option maxHeartbeats 4000000 in
theorem m_X7_format (l : Launch) (D : va_G) (ca : Nat → ClassId) (ar : Nat → Nat → Nat) (ag : Nat → Nat) (z : ZG) (n : Nat) (P : RowsS) (G : GlbS) (xs : va_W) (a1 : Int32) (res : Int32) (G' : GlbS) (h0 : f_X7_format n P G a1 = some (res, G')) (sz : Nat) : Met l yX7_format (ws_ yX7_format cX7_format 3 (some .int)) rm_X7_format (PCz z D ca (wC ar ag ca P G ++ xs) sz [.ref (ag 0), .int a1]) (QMw D (wC ar ag ca P G ++ xs) (wC ar ag ca P (G') ++ xs) sz (some (.int res))) 0 0 (AL (wC ar ag ca P G ++ xs) sz) := by
  refine met_z (by decide +kernel) (Nat.le_of_ble_eq_true rfl) (fun p e s m args below meth c K hr0 hZ X hsz ls hl => ?_)
  have K : MC D ca p s m args meth c cX7_format 3 RX7 := K
  have hx := K.1
  have hb := K.2.1
  have hl : lv_has ls 3 [(0, .ref (ag 0)), (1, .int a1)] := hl
  generalize hQ : MQ below _ args s 0 0 _ = Q
  unfold f_X7_format at h0
  suffices Z : ∀ (H : Heap) (locs : List Loc) (X : RW D (wC ar ag ca P G ++ xs) s.heap H locs), W p l e rm_X7_format s m args below meth c H locs 0 0 Q (F0 m 0 ls []) from Z _ _ X
  intro H locs X
  have J135 : ∀ (G_135 : GlbS) (H : Heap) (locs : List Loc) (X : RW D (wC ar ag ca P G_135 ++ xs) s.heap H locs) (ls : Array Slot) (hl : lv_has ls 3 [(0, .ref (ag 0))]) (h0 : b_X7_format_135 G_135 = some (res, G')), W p l e rm_X7_format s m args below meth c H locs 0 0 Q (F0 m 135 ls []) := by
    intro G_135 H locs X ls hl h0
    unfold b_X7_format_135 at h0
    refine lv_aload_n hx hb dX7_format_135 rfl (lv_at hl 0 rfl) ?_
    refine g_objr K X 5 (by decide) rfl q366 dX7_format_136 ?_
    obtain ⟨x22, ex22, h0⟩ := lt_out h0
    have kx22 := m_J4_length_8abf5 l D ca ar ag z P G_135 xs x22 ex22.symm H.size
    refine z_callV K hZ X wC_fstx wC_fstx kx22 hl.1 0 q464 q465 q466 q94 q467 hv_J4_length_8abf5 ⟨⟨Nat.le_of_ble_eq_true rfl, Nat.le_of_ble_eq_true rfl⟩, rfl, rfl⟩ (z_recvw K X (pl_glb (k := 5) (by decide)) rfl rfl) rfl rfl (Nat.le_of_ble_eq_true rfl) dX7_format_139 ⟨Nat.le_of_ble_eq_true rfl, Nat.le_of_ble_eq_true rfl⟩ rfl (fun H locs X => ?_)
    have h0 := Option.some.inj h0
    obtain ⟨q_0, q_1⟩ := Prod.mk.inj h0
    subst q_0
    subst q_1
    subst hQ
    exact w_iret K hr0 X wC_fstx hsz dX7_format_142
  have J131 : ∀ (y131_s1 : Nat) (G_131 : GlbS) (H : Heap) (locs : List Loc) (X : RW D (wC ar ag ca P G_131 ++ xs) s.heap H locs) (ls : Array Slot) (hl : lv_has ls 3 [(0, .ref (ag 0))]) (hy131_s1 : y131_s1 < 33) (h0 : b_X7_format_131 y131_s1 G_131 = some (res, G')), W p l e rm_X7_format s m args below meth c H locs 0 0 Q (F0 m 131 ls [.ref (z.1 y131_s1), .ref (ag 5)]) := by
    intro y131_s1 G_131 H locs X ls hl hy131_s1 h0
    unfold b_X7_format_131 at h0
    obtain ⟨x20, ex20, h0⟩ := ob_out h0
    obtain ⟨Gv21, eGv21, h0⟩ := lt_out h0
    have kx20 := m_J4_append_15ec4 l D ca ar ag z P G_131 xs y131_s1 hy131_s1 x20 ex20 H.size
    rw [← eGv21] at kx20
    refine z_callV K hZ X wC_fstx wC_fstx kx20 hl.1 1 q1287 q1128 q1129 q94 q1130 hv_J4_append_15ec4 ⟨⟨Nat.le_of_ble_eq_true rfl, Nat.le_of_ble_eq_true rfl⟩, rfl, rfl⟩ (z_recvw K X (pl_glb (k := 5) (by decide)) rfl rfl) rfl rfl (Nat.le_of_ble_eq_true rfl) dX7_format_131 ⟨Nat.le_of_ble_eq_true rfl, Nat.le_of_ble_eq_true rfl⟩ rfl (fun H locs X => ?_)
    refine lv_pop hx hb dX7_format_134 rfl ?_
    exact J135 Gv21 H locs X ls (lv_sub hl [0] rfl) h0
  refine lv_aload_n hx hb dX7_format_0 rfl (lv_at hl 0 rfl) ?_
  refine lv_iload_n hx hb dX7_format_1 rfl (lv_at hl 1 rfl) ?_
  obtain ⟨x1, ex1, h0⟩ := ob_out h0
  have kx1 := m_X7_requireTube l D ca ar ag z P G xs a1  ex1 H.size
  refine z_callV K hZ X wC_fstx wC_fstx kx1 hl.1 1 q886 q888 q10 q87 q889 hv_X7_requireTube ⟨⟨Nat.le_of_ble_eq_true rfl, Nat.le_of_ble_eq_true rfl⟩, rfl, rfl⟩ (z_recvw K X (pl_glb (k := 0) (by decide)) rfl rfl) rfl rfl (Nat.le_of_ble_eq_true rfl) dX7_format_2 ⟨Nat.le_of_ble_eq_true rfl, Nat.le_of_ble_eq_true rfl⟩ rfl (fun H locs X => ?_)
  refine lv_aload_n hx hb dX7_format_5 rfl (lv_at hl 0 rfl) ?_
  refine g_objr K X 0 (by decide) rfl q361 dX7_format_6 ?_
  refine lv_iload_n hx hb dX7_format_9 rfl (lv_at hl 1 rfl) ?_
  obtain ⟨x2, ex2, h0⟩ := lt_out h0
  have kx2 := mC_X3_tubeAt l D ca ar ag P 0 G xs (by decide) a1 x2 ex2.symm H.size
  refine w_callV0 K X wC_fstx kx2 hl.1 1 q403 q404 q405 q88 q406 hv_X3_tubeAt ⟨⟨Nat.le_of_ble_eq_true rfl, Nat.le_of_ble_eq_true rfl⟩, rfl, rfl⟩ (pl_rowo (by decide)) rfl rfl rfl rfl (Nat.le_of_ble_eq_true rfl) dX7_format_10 ⟨Nat.le_of_ble_eq_true rfl, Nat.le_of_ble_eq_true rfl⟩ rfl (fun H locs X => ?_)
  obtain ⟨j3, ej3, h0⟩ := lt_out h0
  rw [← ej3]
  have hj3 : j3 < 13 := by rw [ej3]; exact lt_X3_tubeAt ex2
  refine lv_astore_n (lv' := [(2, .ref (ar 0 (j3 + 5))), (0, .ref (ag 0)), (1, .int a1)]) hx hb dX7_format_13 rfl hl (by decide) rfl (fun ls hl => ?_)
  refine lv_aload_n hx hb dX7_format_14 rfl (lv_at hl 1 rfl) ?_
  refine g_objr K X 5 (by decide) rfl q366 dX7_format_15 ?_
  refine lv_iconst (v := 0) hx hb dX7_format_18 (by decide) ?_
  obtain ⟨x4, ex4, h0⟩ := ob_out h0
  obtain ⟨Gv5, eGv5, h0⟩ := lt_out h0
  have kx4 := m_J4_setLength_d00df l D ca ar ag z P G xs 0 x4 ex4 H.size
  rw [← eGv5] at kx4
  refine z_callV K hZ X wC_fstx wC_fstx kx4 hl.1 1 q1071 q1072 q1073 q94 q1074 hv_J4_setLength_d00df ⟨⟨Nat.le_of_ble_eq_true rfl, Nat.le_of_ble_eq_true rfl⟩, rfl, rfl⟩ (z_recvw K X (pl_glb (k := 5) (by decide)) rfl rfl) rfl rfl (Nat.le_of_ble_eq_true rfl) dX7_format_19 ⟨Nat.le_of_ble_eq_true rfl, Nat.le_of_ble_eq_true rfl⟩ rfl (fun H locs X => ?_)
  refine lv_aload_n hx hb dX7_format_22 rfl (lv_at hl 1 rfl) ?_
  refine g_objr K X 5 (by decide) rfl q366 dX7_format_23 ?_
  refine lv_aload_n hx hb dX7_format_26 rfl (lv_at hl 0 rfl) ?_
  refine g_tube K X (by decide) hj3 rfl 0 (by decide) q178 dX7_format_27 ?_
  obtain ⟨x6, ex6, h0⟩ := ob_out h0
  obtain ⟨Gv7, eGv7, h0⟩ := lt_out h0
  have kx6 := m_J4_append_bf812 l D ca ar ag z n P Gv5 xs ((P 0).1 (j3 + 5) 0) x6 ex6 H.size
  rw [← eGv7] at kx6
  refine z_callV K hZ X wC_fstx wC_fstx kx6 hl.1 1 q1271 q1189 q1190 q94 q1191 hv_J4_append_bf812 ⟨⟨Nat.le_of_ble_eq_true rfl, Nat.le_of_ble_eq_true rfl⟩, rfl, rfl⟩ (z_recvw K X (pl_glb (k := 5) (by decide)) rfl rfl) rfl rfl (Nat.le_of_ble_eq_true rfl) dX7_format_30 ⟨Nat.le_of_ble_eq_true rfl, Nat.le_of_ble_eq_true rfl⟩ rfl (fun H locs X => ?_)
  refine lv_pop hx hb dX7_format_33 rfl ?_
  refine lv_aload_n hx hb dX7_format_34 rfl (lv_at hl 1 rfl) ?_
  refine g_objr K X 5 (by decide) rfl q366 dX7_format_35 ?_
  refine lv_bipush (v := 47) hx hb dX7_format_38 (by decide) ?_
  obtain ⟨x8, ex8, h0⟩ := ob_out h0
  obtain ⟨Gv9, eGv9, h0⟩ := lt_out h0
  have kx8 := m_J4_append_cf468 l D ca ar ag z P Gv7 xs 47 x8 ex8 H.size
  rw [← eGv9] at kx8
  refine z_callV K hZ X wC_fstx wC_fstx kx8 hl.1 1 q1272 q1273 q1274 q94 q1275 hv_J4_append_cf468 ⟨⟨Nat.le_of_ble_eq_true rfl, Nat.le_of_ble_eq_true rfl⟩, rfl, rfl⟩ (z_recvw K X (pl_glb (k := 5) (by decide)) rfl rfl) rfl rfl (Nat.le_of_ble_eq_true rfl) dX7_format_40 ⟨Nat.le_of_ble_eq_true rfl, Nat.le_of_ble_eq_true rfl⟩ rfl (fun H locs X => ?_)
  refine lv_pop hx hb dX7_format_43 rfl ?_
  refine lv_aload_n hx hb dX7_format_44 rfl (lv_at hl 1 rfl) ?_
  refine g_objr K X 5 (by decide) rfl q366 dX7_format_45 ?_
  refine lv_aload_n hx hb dX7_format_48 rfl (lv_at hl 0 rfl) ?_
  refine g_tube K X (by decide) hj3 rfl 1 (by decide) q181 dX7_format_49 ?_
  obtain ⟨x10, ex10, h0⟩ := ob_out h0
  obtain ⟨Gv11, eGv11, h0⟩ := lt_out h0
  have kx10 := m_J4_append_bf812 l D ca ar ag z n P Gv9 xs ((P 0).1 (j3 + 5) 1) x10 ex10 H.size
  rw [← eGv11] at kx10
  refine z_callV K hZ X wC_fstx wC_fstx kx10 hl.1 1 q1271 q1189 q1190 q94 q1191 hv_J4_append_bf812 ⟨⟨Nat.le_of_ble_eq_true rfl, Nat.le_of_ble_eq_true rfl⟩, rfl, rfl⟩ (z_recvw K X (pl_glb (k := 5) (by decide)) rfl rfl) rfl rfl (Nat.le_of_ble_eq_true rfl) dX7_format_52 ⟨Nat.le_of_ble_eq_true rfl, Nat.le_of_ble_eq_true rfl⟩ rfl (fun H locs X => ?_)
  refine lv_pop hx hb dX7_format_55 rfl ?_
  refine lv_aload_n hx hb dX7_format_56 rfl (lv_at hl 1 rfl) ?_
  refine g_objr K X 5 (by decide) rfl q366 dX7_format_57 ?_
  refine lv_bipush (v := 32) hx hb dX7_format_60 (by decide) ?_
  obtain ⟨x12, ex12, h0⟩ := ob_out h0
  obtain ⟨Gv13, eGv13, h0⟩ := lt_out h0
  have kx12 := m_J4_append_cf468 l D ca ar ag z P Gv11 xs 32 x12 ex12 H.size
  rw [← eGv13] at kx12
  refine z_callV K hZ X wC_fstx wC_fstx kx12 hl.1 1 q1272 q1273 q1274 q94 q1275 hv_J4_append_cf468 ⟨⟨Nat.le_of_ble_eq_true rfl, Nat.le_of_ble_eq_true rfl⟩, rfl, rfl⟩ (z_recvw K X (pl_glb (k := 5) (by decide)) rfl rfl) rfl rfl (Nat.le_of_ble_eq_true rfl) dX7_format_62 ⟨Nat.le_of_ble_eq_true rfl, Nat.le_of_ble_eq_true rfl⟩ rfl (fun H locs X => ?_)
  refine lv_pop hx hb dX7_format_65 rfl ?_
  refine lv_aload_n hx hb dX7_format_66 rfl (lv_at hl 1 rfl) ?_
  refine g_objr K X 5 (by decide) rfl q366 dX7_format_67 ?_
  refine lv_aload_n hx hb dX7_format_70 rfl (lv_at hl 0 rfl) ?_
  refine g_tube K X (by decide) hj3 rfl 3 (by decide) q186 dX7_format_71 ?_
  obtain ⟨x14, ex14, h0⟩ := ob_out h0
  obtain ⟨Gv15, eGv15, h0⟩ := lt_out h0
  have kx14 := m_J4_append_bf812 l D ca ar ag z n P Gv13 xs ((P 0).1 (j3 + 5) 3) x14 ex14 H.size
  rw [← eGv15] at kx14
  refine z_callV K hZ X wC_fstx wC_fstx kx14 hl.1 1 q1271 q1189 q1190 q94 q1191 hv_J4_append_bf812 ⟨⟨Nat.le_of_ble_eq_true rfl, Nat.le_of_ble_eq_true rfl⟩, rfl, rfl⟩ (z_recvw K X (pl_glb (k := 5) (by decide)) rfl rfl) rfl rfl (Nat.le_of_ble_eq_true rfl) dX7_format_74 ⟨Nat.le_of_ble_eq_true rfl, Nat.le_of_ble_eq_true rfl⟩ rfl (fun H locs X => ?_)
  refine lv_pop hx hb dX7_format_77 rfl ?_
  refine lv_aload_n hx hb dX7_format_78 rfl (lv_at hl 1 rfl) ?_
  refine g_objr K X 5 (by decide) rfl q366 dX7_format_79 ?_
  refine lv_bipush (v := 32) hx hb dX7_format_82 (by decide) ?_
  obtain ⟨x16, ex16, h0⟩ := ob_out h0
  obtain ⟨Gv17, eGv17, h0⟩ := lt_out h0
  have kx16 := m_J4_append_cf468 l D ca ar ag z P Gv15 xs 32 x16 ex16 H.size
  rw [← eGv17] at kx16
  refine z_callV K hZ X wC_fstx wC_fstx kx16 hl.1 1 q1272 q1273 q1274 q94 q1275 hv_J4_append_cf468 ⟨⟨Nat.le_of_ble_eq_true rfl, Nat.le_of_ble_eq_true rfl⟩, rfl, rfl⟩ (z_recvw K X (pl_glb (k := 5) (by decide)) rfl rfl) rfl rfl (Nat.le_of_ble_eq_true rfl) dX7_format_84 ⟨Nat.le_of_ble_eq_true rfl, Nat.le_of_ble_eq_true rfl⟩ rfl (fun H locs X => ?_)
  refine lv_pop hx hb dX7_format_87 rfl ?_
  refine lv_aload_n hx hb dX7_format_88 rfl (lv_at hl 0 rfl) ?_
  refine g_tube K X (by decide) hj3 rfl 6 (by decide) q194 dX7_format_89 ?_
  refine lv_if_ne (tgt := 110) hx hb dX7_format_92 (by decide) (fun c18 => ?_) (fun c18 => ?_)
  · have h0 := if_f c18 h0
    refine lv_aload_n hx hb dX7_format_110 rfl (lv_at hl 1 rfl) ?_
    refine g_objr K X 5 (by decide) rfl q366 dX7_format_111 ?_
    refine lv_aload_n hx hb dX7_format_114 rfl (lv_at hl 0 rfl) ?_
    refine g_tube K X (by decide) hj3 rfl 6 (by decide) q194 dX7_format_115 ?_
    refine lv_iconst (v := 1) hx hb dX7_format_118 (by decide) ?_
    refine lv_icmp_ne (tgt := 128) hx hb dX7_format_119 (by decide) (fun c19 => ?_) (fun c19 => ?_)
    · have h0 := if_f c19 h0
      refine z_ldcw K hZ 18 (by decide) ⟨rfl, rfl⟩ dX7_format_128 ?_
      exact J131 18 Gv17 H locs X ls (lv_sub hl [1] rfl) (by decide) h0
    · have h0 := if_t c19 h0
      refine z_ldcw K hZ 17 (by decide) ⟨rfl, rfl⟩ dX7_format_122 ?_
      refine lv_goto (tgt := 131) hx hb dX7_format_125 (by decide) ?_
      exact J131 17 Gv17 H locs X ls (lv_sub hl [1] rfl) (by decide) h0
  · have h0 := if_t c18 h0
    refine lv_aload_n hx hb dX7_format_95 rfl (lv_at hl 1 rfl) ?_
    refine g_objr K X 5 (by decide) rfl q366 dX7_format_96 ?_
    refine lv_aload_n hx hb dX7_format_99 rfl (lv_at hl 0 rfl) ?_
    obtain ⟨x23, ex23, h0⟩ := lt_out h0
    have kx23 := mC_X6_shownReading l D ca ar ag P 0 j3 Gv17 xs (by decide) hj3 x23 ex23.symm H.size
    refine w_callV0 K X wC_fstx kx23 hl.1 0 q447 q448 q449 q90 q450 hv_X6_shownReading ⟨⟨Nat.le_of_ble_eq_true rfl, Nat.le_of_ble_eq_true rfl⟩, rfl, rfl⟩ (pl_tube (by decide) hj3) rfl rfl rfl rfl (Nat.le_of_ble_eq_true rfl) dX7_format_100 ⟨Nat.le_of_ble_eq_true rfl, Nat.le_of_ble_eq_true rfl⟩ rfl (fun H locs X => ?_)
    obtain ⟨x24, ex24, h0⟩ := ob_out h0
    obtain ⟨Gv25, eGv25, h0⟩ := lt_out h0
    have kx24 := m_J4_append_bf812 l D ca ar ag z n P Gv17 xs x23 x24 ex24 H.size
    rw [← eGv25] at kx24
    refine z_callV K hZ X wC_fstx wC_fstx kx24 hl.1 1 q1271 q1189 q1190 q94 q1191 hv_J4_append_bf812 ⟨⟨Nat.le_of_ble_eq_true rfl, Nat.le_of_ble_eq_true rfl⟩, rfl, rfl⟩ (z_recvw K X (pl_glb (k := 5) (by decide)) rfl rfl) rfl rfl (Nat.le_of_ble_eq_true rfl) dX7_format_103 ⟨Nat.le_of_ble_eq_true rfl, Nat.le_of_ble_eq_true rfl⟩ rfl (fun H locs X => ?_)
    refine lv_pop hx hb dX7_format_106 rfl ?_
    refine lv_goto (tgt := 135) hx hb dX7_format_107 (by decide) ?_
    exact J135 Gv25 H locs X ls (lv_sub hl [1] rfl) h0
-- X7_formattedByte
def f_X7_formattedByte (P : RowsS) (G : GlbS) (a1 : Int32) : Option Int32 :=
  if a1 < 0 then
    some (-1)
  else
    lt (f_J4_length_8abf5 G) fun x2 =>
    if x2 ≤ a1 then
      some (-1)
    else
      ob (f_J4_charAt_5068e G a1) fun x4 =>
      some x4
abbrev rm_X7_formattedByte : Room := { frames := 4, cells := 0, slots := 0, locals := 88 }
set_option maxRecDepth 100000 in
set_option maxHeartbeats 4000000 in
theorem m_X7_formattedByte (l : Launch) (D : va_G) (ca : Nat → ClassId) (ar : Nat → Nat → Nat) (ag : Nat → Nat) (z : ZG) (P : RowsS) (G : GlbS) (xs : va_W) (a1 : Int32) (res : Int32) (h0 : f_X7_formattedByte P G a1 = some res) (sz : Nat) : Met l yX7_formattedByte (ws_ yX7_formattedByte cX7_formattedByte 2 (some .int)) rm_X7_formattedByte (PCz z D ca (wC ar ag ca P G ++ xs) sz [.ref (ag 0), .int a1]) (QMw D (wC ar ag ca P G ++ xs) (wC ar ag ca P G ++ xs) sz (some (.int res))) 0 0 (AL (wC ar ag ca P G ++ xs) sz) := by
  refine met_z (by decide +kernel) (Nat.le_of_ble_eq_true rfl) (fun p e s m args below meth c K hr0 hZ X hsz ls hl => ?_)
  have K : MC D ca p s m args meth c cX7_formattedByte 2 RX7 := K
  have hx := K.1
  have hb := K.2.1
  have hl : lv_has ls 2 [(0, .ref (ag 0)), (1, .int a1)] := hl
  generalize hQ : MQ below _ args s 0 0 _ = Q
  unfold f_X7_formattedByte at h0
  suffices Z : ∀ (H : Heap) (locs : List Loc) (X : RW D (wC ar ag ca P G ++ xs) s.heap H locs), W p l e rm_X7_formattedByte s m args below meth c H locs 0 0 Q (F0 m 0 ls []) from Z _ _ X
  intro H locs X
  refine lv_iload_n hx hb dX7_formattedByte_0 rfl (lv_at hl 1 rfl) ?_
  refine lv_if_lt (tgt := 26) hx hb dX7_formattedByte_1 (by decide) (fun c1 => ?_) (fun c1 => ?_)
  · have h0 := if_t c1 h0
    refine lv_iconst (v := (-1)) hx hb dX7_formattedByte_26 (by decide) ?_
    have h0 := Option.some.inj h0
    subst h0
    subst hQ
    exact w_iret K hr0 X wC_fstx hsz dX7_formattedByte_27
  · have h0 := if_f c1 h0
    refine lv_iload_n hx hb dX7_formattedByte_4 rfl (lv_at hl 1 rfl) ?_
    refine lv_aload_n hx hb dX7_formattedByte_5 rfl (lv_at hl 0 rfl) ?_
    refine g_objr K X 5 (by decide) rfl q366 dX7_formattedByte_6 ?_
    obtain ⟨x2, ex2, h0⟩ := lt_out h0
    have kx2 := m_J4_length_8abf5 l D ca ar ag z P G xs x2 ex2.symm H.size
    refine z_callV K hZ X wC_fstx wC_fstx kx2 hl.1 0 q464 q465 q466 q94 q467 hv_J4_length_8abf5 ⟨⟨Nat.le_of_ble_eq_true rfl, Nat.le_of_ble_eq_true rfl⟩, rfl, rfl⟩ (z_recvw K X (pl_glb (k := 5) (by decide)) rfl rfl) rfl rfl (Nat.le_of_ble_eq_true rfl) dX7_formattedByte_9 ⟨Nat.le_of_ble_eq_true rfl, Nat.le_of_ble_eq_true rfl⟩ rfl (fun H locs X => ?_)
    refine lv_icmp_ge (tgt := 26) hx hb dX7_formattedByte_12 (by decide) (fun c3 => ?_) (fun c3 => ?_)
    · have h0 := if_t c3 h0
      refine lv_iconst (v := (-1)) hx hb dX7_formattedByte_26 (by decide) ?_
      have h0 := Option.some.inj h0
      subst h0
      subst hQ
      exact w_iret K hr0 X wC_fstx hsz dX7_formattedByte_27
    · have h0 := if_f c3 h0
      refine lv_aload_n hx hb dX7_formattedByte_15 rfl (lv_at hl 0 rfl) ?_
      refine g_objr K X 5 (by decide) rfl q366 dX7_formattedByte_16 ?_
      refine lv_iload_n hx hb dX7_formattedByte_19 rfl (lv_at hl 1 rfl) ?_
      obtain ⟨x4, ex4, h0⟩ := ob_out h0
      have kx4 := m_J4_charAt_5068e l D ca ar ag z P G xs a1 x4 ex4 H.size
      refine z_callV K hZ X wC_fstx wC_fstx kx4 hl.1 1 q471 q472 q473 q94 q474 hv_J4_charAt_5068e ⟨⟨Nat.le_of_ble_eq_true rfl, Nat.le_of_ble_eq_true rfl⟩, rfl, rfl⟩ (z_recvw K X (pl_glb (k := 5) (by decide)) rfl rfl) rfl rfl (Nat.le_of_ble_eq_true rfl) dX7_formattedByte_20 ⟨Nat.le_of_ble_eq_true rfl, Nat.le_of_ble_eq_true rfl⟩ rfl (fun H locs X => ?_)
      refine lv_goto (tgt := 27) hx hb dX7_formattedByte_23 (by decide) ?_
      have h0 := Option.some.inj h0
      subst h0
      subst hQ
      exact w_iret K hr0 X wC_fstx hsz dX7_formattedByte_27
-- X7_undoCount
def f_X7_undoCount (P : RowsS) (G : GlbS) : Int32 :=
  (G 1 2)
abbrev rm_X7_undoCount : Room := { frames := 0, cells := 0, slots := 0, locals := 0 }
set_option maxRecDepth 100000 in
set_option maxHeartbeats 4000000 in
theorem m_X7_undoCount (l : Launch) (D : va_G) (ca : Nat → ClassId) (ar : Nat → Nat → Nat) (ag : Nat → Nat) (P : RowsS) (G : GlbS) (xs : va_W) (res : Int32) (h0 : f_X7_undoCount P G = res) (sz : Nat) : Met l yX7_undoCount (ws_ yX7_undoCount cX7_undoCount 1 (some .int)) rm_X7_undoCount (PCw D ca (wC ar ag ca P G ++ xs) sz [.ref (ag 0)]) (QMw D (wC ar ag ca P G ++ xs) (wC ar ag ca P G ++ xs) sz (some (.int res))) 0 0 (AL (wC ar ag ca P G ++ xs) sz) := by
  refine met_of (by decide) (Nat.le_of_ble_eq_true rfl) (fun p e s m args below meth c K hr0 X hsz ls hl => ?_)
  have K : MC D ca p s m args meth c cX7_undoCount 1 RX7 := K
  have hx := K.1
  have hb := K.2.1
  have hl : lv_has ls 1 [(0, .ref (ag 0))] := hl
  generalize hQ : MQ below _ args s 0 0 _ = Q
  unfold f_X7_undoCount at h0
  suffices Z : ∀ (H : Heap) (locs : List Loc) (X : RW D (wC ar ag ca P G ++ xs) s.heap H locs), W p l e rm_X7_undoCount s m args below meth c H locs 0 0 Q (F0 m 0 ls []) from Z _ _ X
  intro H locs X
  refine lv_aload_n hx hb dX7_undoCount_0 rfl (lv_at hl 0 rfl) ?_
  refine g_objr K X 3 (by decide) rfl q364 dX7_undoCount_1 ?_
  refine g_hisi K X 2 (by decide) q267 dX7_undoCount_4 ?_
  subst h0
  subst hQ
  exact w_iret K hr0 X wC_fstx hsz dX7_undoCount_7
-- X7_undo
def f_X7_undo (n : Nat) (P : RowsS) (G : GlbS) : Option (Int32 × RowsS × GlbS) :=
  if (G 1 2) = 0 then
    some ((-1), P, G)
  else
    ob (f_X0_takeBack n P G 0) fun x2 =>
    lt (x2.1) fun Pv3 =>
    lt (x2.2) fun Gv4 =>
    some ((Gv4 1 2), Pv3, Gv4)
abbrev rm_X7_undo : Room := { frames := 4, cells := 0, slots := 0, locals := 88 }
set_option maxRecDepth 100000 in
set_option maxHeartbeats 4000000 in
theorem m_X7_undo (l : Launch) (D : va_G) (ca : Nat → ClassId) (ar : Nat → Nat → Nat) (ag : Nat → Nat) (n : Nat) (P : RowsS) (G : GlbS) (xs : va_W) (res : Int32) (P' : RowsS) (G' : GlbS) (h0 : f_X7_undo n P G = some (res, P', G')) (sz : Nat) : Met l yX7_undo (ws_ yX7_undo cX7_undo 1 (some .int)) rm_X7_undo (PCw D ca (wC ar ag ca P G ++ xs) sz [.ref (ag 0)]) (QMw D (wC ar ag ca P G ++ xs) (wC ar ag ca (P') (G') ++ xs) sz (some (.int res))) 0 0 (AL (wC ar ag ca P G ++ xs) sz) := by
  refine met_of (by decide) (Nat.le_of_ble_eq_true rfl) (fun p e s m args below meth c K hr0 X hsz ls hl => ?_)
  have K : MC D ca p s m args meth c cX7_undo 1 RX7 := K
  have hx := K.1
  have hb := K.2.1
  have hl : lv_has ls 1 [(0, .ref (ag 0))] := hl
  generalize hQ : MQ below _ args s 0 0 _ = Q
  unfold f_X7_undo at h0
  suffices Z : ∀ (H : Heap) (locs : List Loc) (X : RW D (wC ar ag ca P G ++ xs) s.heap H locs), W p l e rm_X7_undo s m args below meth c H locs 0 0 Q (F0 m 0 ls []) from Z _ _ X
  intro H locs X
  refine lv_aload_n hx hb dX7_undo_0 rfl (lv_at hl 0 rfl) ?_
  refine g_objr K X 3 (by decide) rfl q364 dX7_undo_1 ?_
  refine g_hisi K X 2 (by decide) q267 dX7_undo_4 ?_
  refine lv_if_ne (tgt := 12) hx hb dX7_undo_7 (by decide) (fun c1 => ?_) (fun c1 => ?_)
  · have h0 := if_f c1 h0
    refine lv_aload_n hx hb dX7_undo_12 rfl (lv_at hl 0 rfl) ?_
    refine g_objr K X 3 (by decide) rfl q364 dX7_undo_13 ?_
    refine lv_aload_n hx hb dX7_undo_16 rfl (lv_at hl 0 rfl) ?_
    refine g_objr K X 0 (by decide) rfl q361 dX7_undo_17 ?_
    obtain ⟨x2, ex2, h0⟩ := ob_out h0
    obtain ⟨Pv3, ePv3, h0⟩ := lt_out h0
    obtain ⟨Gv4, eGv4, h0⟩ := lt_out h0
    have kx2 := m_X0_takeBack l D ca ar ag n P G xs 0 (by decide) x2.1 x2.2 ex2 H.size
    rw [← ePv3, ← eGv4] at kx2
    refine w_callV0 K X wC_fstx kx2 hl.1 1 q509 q510 q511 q91 q512 hv_X0_takeBack ⟨⟨Nat.le_of_ble_eq_true rfl, Nat.le_of_ble_eq_true rfl⟩, rfl, rfl⟩ (pl_glb (k := 1) (by decide)) rfl rfl rfl rfl (Nat.le_of_ble_eq_true rfl) dX7_undo_20 ⟨Nat.le_of_ble_eq_true rfl, Nat.le_of_ble_eq_true rfl⟩ rfl (fun H locs X => ?_)
    refine lv_aload_n hx hb dX7_undo_23 rfl (lv_at hl 0 rfl) ?_
    refine g_objr K X 3 (by decide) rfl q364 dX7_undo_24 ?_
    refine g_hisi K X 2 (by decide) q267 dX7_undo_27 ?_
    have h0 := Option.some.inj h0
    obtain ⟨q_0, h0⟩ := Prod.mk.inj h0
    obtain ⟨q_1, q_2⟩ := Prod.mk.inj h0
    subst q_0
    subst q_1
    subst q_2
    subst hQ
    exact w_iret K hr0 X wC_fstx hsz dX7_undo_30
  · have h0 := if_t c1 h0
    refine lv_iconst (v := (-1)) hx hb dX7_undo_10 (by decide) ?_
    have h0 := Option.some.inj h0
    obtain ⟨q_0, h0⟩ := Prod.mk.inj h0
    obtain ⟨q_1, q_2⟩ := Prod.mk.inj h0
    subst q_0
    subst q_1
    subst q_2
    subst hQ
    exact w_iret K hr0 X wC_fstx hsz dX7_undo_11
-- X7_saveSnapshot
def f_X7_saveSnapshot (n : Nat) (P : RowsS) (G : GlbS) : Option (RowsS × GlbS) :=
  ob (f_X3_copyFrom n (P 2) (P 0)) fun x1 =>
  lt (va_up P 2 x1) fun Pv2 =>
  lt (sg G 0 6 1) fun Gv3 =>
  some (Pv2, Gv3)
abbrev rm_X7_saveSnapshot : Room := { frames := 3, cells := 0, slots := 0, locals := 66 }
set_option maxRecDepth 100000 in
set_option maxHeartbeats 4000000 in
theorem m_X7_saveSnapshot (l : Launch) (D : va_G) (ca : Nat → ClassId) (ar : Nat → Nat → Nat) (ag : Nat → Nat) (n : Nat) (P : RowsS) (G : GlbS) (xs : va_W) (P' : RowsS) (G' : GlbS) (h0 : f_X7_saveSnapshot n P G = some (P', G')) (sz : Nat) : Met l yX7_saveSnapshot (ws_ yX7_saveSnapshot cX7_saveSnapshot 1 none) rm_X7_saveSnapshot (PCw D ca (wC ar ag ca P G ++ xs) sz [.ref (ag 0)]) (QMw D (wC ar ag ca P G ++ xs) (wC ar ag ca (P') (G') ++ xs) sz none) 0 0 (AL (wC ar ag ca P G ++ xs) sz) := by
  refine met_of (by decide) (Nat.le_of_ble_eq_true rfl) (fun p e s m args below meth c K hr0 X hsz ls hl => ?_)
  have K : MC D ca p s m args meth c cX7_saveSnapshot 1 RX7 := K
  have hx := K.1
  have hb := K.2.1
  have hl : lv_has ls 1 [(0, .ref (ag 0))] := hl
  generalize hQ : MQ below _ args s 0 0 _ = Q
  unfold f_X7_saveSnapshot at h0
  suffices Z : ∀ (H : Heap) (locs : List Loc) (X : RW D (wC ar ag ca P G ++ xs) s.heap H locs), W p l e rm_X7_saveSnapshot s m args below meth c H locs 0 0 Q (F0 m 0 ls []) from Z _ _ X
  intro H locs X
  refine lv_aload_n hx hb dX7_saveSnapshot_0 rfl (lv_at hl 0 rfl) ?_
  refine g_objr K X 2 (by decide) rfl q363 dX7_saveSnapshot_1 ?_
  refine lv_aload_n hx hb dX7_saveSnapshot_4 rfl (lv_at hl 0 rfl) ?_
  refine g_objr K X 0 (by decide) rfl q361 dX7_saveSnapshot_5 ?_
  obtain ⟨x1, ex1, h0⟩ := ob_out h0
  obtain ⟨Pv2, ePv2, h0⟩ := lt_out h0
  have kx1 := mC_X3_copyFrom l D ca ar ag n P 2 G xs (by decide) 0 (by decide) (by decide) x1 ex1 H.size
  rw [← ePv2] at kx1
  refine w_callV0 K X wC_fstx kx1 hl.1 1 q540 q517 q518 q88 q519 hv_X3_copyFrom ⟨⟨Nat.le_of_ble_eq_true rfl, Nat.le_of_ble_eq_true rfl⟩, rfl, rfl⟩ (pl_rowo (by decide)) rfl rfl rfl rfl (Nat.le_of_ble_eq_true rfl) dX7_saveSnapshot_8 ⟨Nat.le_of_ble_eq_true rfl, Nat.le_of_ble_eq_true rfl⟩ rfl (fun H locs X => ?_)
  refine lv_aload_n hx hb dX7_saveSnapshot_11 rfl (lv_at hl 0 rfl) ?_
  refine lv_iconst (v := 1) hx hb dX7_saveSnapshot_12 (by decide) ?_
  obtain ⟨Gv3, eGv3, h0⟩ := lt_out h0
  refine p_objz K X (by decide) eGv3 q367 dX7_saveSnapshot_13 (fun H locs X => ?_)
  have h0 := Option.some.inj h0
  obtain ⟨q_0, q_1⟩ := Prod.mk.inj h0
  subst q_0
  subst q_1
  subst hQ
  exact w_vret K hr0 X wC_fstx hsz dX7_saveSnapshot_16
-- X7_restoreSnapshot
def f_X7_restoreSnapshot (n : Nat) (P : RowsS) (G : GlbS) : Option (Bool × RowsS × GlbS) :=
  if (G 0 6) = 0 then
    some (false, P, G)
  else
    ob (f_X3_copyFrom n (P 0) (P 2)) fun x2 =>
    lt (va_up P 0 x2) fun Pv3 =>
    lt (f_X0_clear Pv3 G) fun x4 =>
    lt (x4) fun Gv5 =>
    some (true, Pv3, Gv5)
abbrev rm_X7_restoreSnapshot : Room := { frames := 3, cells := 0, slots := 0, locals := 66 }
set_option maxRecDepth 100000 in
set_option maxHeartbeats 4000000 in
theorem m_X7_restoreSnapshot (l : Launch) (D : va_G) (ca : Nat → ClassId) (ar : Nat → Nat → Nat) (ag : Nat → Nat) (n : Nat) (P : RowsS) (G : GlbS) (xs : va_W) (res : Bool) (P' : RowsS) (G' : GlbS) (h0 : f_X7_restoreSnapshot n P G = some (res, P', G')) (sz : Nat) : Met l yX7_restoreSnapshot (ws_ yX7_restoreSnapshot cX7_restoreSnapshot 1 (some .boolean)) rm_X7_restoreSnapshot (PCw D ca (wC ar ag ca P G ++ xs) sz [.ref (ag 0)]) (QMw D (wC ar ag ca P G ++ xs) (wC ar ag ca (P') (G') ++ xs) sz (some (.int (b2i res)))) 0 0 (AL (wC ar ag ca P G ++ xs) sz) := by
  refine met_of (by decide) (Nat.le_of_ble_eq_true rfl) (fun p e s m args below meth c K hr0 X hsz ls hl => ?_)
  have K : MC D ca p s m args meth c cX7_restoreSnapshot 1 RX7 := K
  have hx := K.1
  have hb := K.2.1
  have hl : lv_has ls 1 [(0, .ref (ag 0))] := hl
  generalize hQ : MQ below _ args s 0 0 _ = Q
  unfold f_X7_restoreSnapshot at h0
  suffices Z : ∀ (H : Heap) (locs : List Loc) (X : RW D (wC ar ag ca P G ++ xs) s.heap H locs), W p l e rm_X7_restoreSnapshot s m args below meth c H locs 0 0 Q (F0 m 0 ls []) from Z _ _ X
  intro H locs X
  refine lv_aload_n hx hb dX7_restoreSnapshot_0 rfl (lv_at hl 0 rfl) ?_
  refine g_obji K X q367 dX7_restoreSnapshot_1 ?_
  refine lv_if_ne (tgt := 9) hx hb dX7_restoreSnapshot_4 (by decide) (fun c1 => ?_) (fun c1 => ?_)
  · have h0 := if_f c1 h0
    refine lv_aload_n hx hb dX7_restoreSnapshot_9 rfl (lv_at hl 0 rfl) ?_
    refine g_objr K X 0 (by decide) rfl q361 dX7_restoreSnapshot_10 ?_
    refine lv_aload_n hx hb dX7_restoreSnapshot_13 rfl (lv_at hl 0 rfl) ?_
    refine g_objr K X 2 (by decide) rfl q363 dX7_restoreSnapshot_14 ?_
    obtain ⟨x2, ex2, h0⟩ := ob_out h0
    obtain ⟨Pv3, ePv3, h0⟩ := lt_out h0
    have kx2 := mC_X3_copyFrom l D ca ar ag n P 0 G xs (by decide) 2 (by decide) (by decide) x2 ex2 H.size
    rw [← ePv3] at kx2
    refine w_callV0 K X wC_fstx kx2 hl.1 1 q540 q517 q518 q88 q519 hv_X3_copyFrom ⟨⟨Nat.le_of_ble_eq_true rfl, Nat.le_of_ble_eq_true rfl⟩, rfl, rfl⟩ (pl_rowo (by decide)) rfl rfl rfl rfl (Nat.le_of_ble_eq_true rfl) dX7_restoreSnapshot_17 ⟨Nat.le_of_ble_eq_true rfl, Nat.le_of_ble_eq_true rfl⟩ rfl (fun H locs X => ?_)
    refine lv_aload_n hx hb dX7_restoreSnapshot_20 rfl (lv_at hl 0 rfl) ?_
    refine g_objr K X 3 (by decide) rfl q364 dX7_restoreSnapshot_21 ?_
    obtain ⟨x4, ex4, h0⟩ := lt_out h0
    obtain ⟨Gv5, eGv5, h0⟩ := lt_out h0
    have kx4 := m_X0_clear l D ca ar ag Pv3 G xs x4 ex4.symm H.size
    rw [← eGv5] at kx4
    refine w_callV0 K X wC_fstx kx4 hl.1 0 q545 q546 q547 q91 q548 hv_X0_clear ⟨⟨Nat.le_of_ble_eq_true rfl, Nat.le_of_ble_eq_true rfl⟩, rfl, rfl⟩ (pl_glb (k := 1) (by decide)) rfl rfl rfl rfl (Nat.le_of_ble_eq_true rfl) dX7_restoreSnapshot_24 ⟨Nat.le_of_ble_eq_true rfl, Nat.le_of_ble_eq_true rfl⟩ rfl (fun H locs X => ?_)
    refine lv_iconst (v := 1) hx hb dX7_restoreSnapshot_27 (by decide) ?_
    have h0 := Option.some.inj h0
    obtain ⟨q_0, h0⟩ := Prod.mk.inj h0
    obtain ⟨q_1, q_2⟩ := Prod.mk.inj h0
    subst q_0
    subst q_1
    subst q_2
    subst hQ
    refine w_int (y := b2i true) (by decide) ?_
    exact w_zret K hr0 X wC_fstx hsz (b2i_nar _) dX7_restoreSnapshot_28
  · have h0 := if_t c1 h0
    refine lv_iconst (v := 0) hx hb dX7_restoreSnapshot_7 (by decide) ?_
    have h0 := Option.some.inj h0
    obtain ⟨q_0, h0⟩ := Prod.mk.inj h0
    obtain ⟨q_1, q_2⟩ := Prod.mk.inj h0
    subst q_0
    subst q_1
    subst q_2
    subst hQ
    refine w_int (y := b2i false) (by decide) ?_
    exact w_zret K hr0 X wC_fstx hsz (b2i_nar _) dX7_restoreSnapshot_8
-- X7_lowestBit
def b_X7_lowestBit_25   : Option Int32 :=
  some (-1)
def l_X7_lowestBit_2 (a1 : Int32) (z2_1 : Int32) : Option (Int32 ⊕ (Unit ⊕ Int32)) :=
  if 12 ≤ z2_1 then
    some (.inr (.inl ()))
  else
    if ((a1 >>> (z2_1 &&& 31)) &&& 1) = 1 then
      some (.inr (.inr z2_1))
    else
      lt (z2_1 + 1) fun x3 =>
      some (.inl x3)
def f_X7_lowestBit (n : Nat) (a1 : Int32) : Option Int32 :=
  ob (wloop (fun t => l_X7_lowestBit_2 a1 t) n 0) (fun t => match t with | .inl t => b_X7_lowestBit_25 | .inr r => some r)
abbrev rm_X7_lowestBit : Room := { frames := 0, cells := 0, slots := 0, locals := 0 }
set_option maxRecDepth 100000 in
set_option maxHeartbeats 4000000 in
theorem m_X7_lowestBit (l : Launch) (D : va_G) (ca : Nat → ClassId) (n : Nat) (ws : va_W) (a1 : Int32) (res : Int32) (h0 : f_X7_lowestBit n a1 = some res) (sz : Nat) : Met l yX7_lowestBit (ws_ yX7_lowestBit cX7_lowestBit 2 (some .int)) rm_X7_lowestBit (PCw D ca (ws) sz [.int a1]) (QMw D (ws) (ws) sz (some (.int res))) 0 0 (AL (ws) sz) := by
  refine met_of (by decide) (Nat.le_of_ble_eq_true rfl) (fun p e s m args below meth c K hr0 X hsz ls hl => ?_)
  have K : MC D ca p s m args meth c cX7_lowestBit 2 RX7 := K
  have hx := K.1
  have hb := K.2.1
  have hl : lv_has ls 2 [(0, .int a1)] := hl
  generalize hQ : MQ below _ args s 0 0 _ = Q
  unfold f_X7_lowestBit at h0
  suffices Z : ∀ (H : Heap) (locs : List Loc) (X : RW D (ws) s.heap H locs), W p l e rm_X7_lowestBit s m args below meth c H locs 0 0 Q (F0 m 0 ls []) from Z _ _ X
  intro H locs X
  have J25 : ∀  (H : Heap) (locs : List Loc) (X : RW D (ws) s.heap H locs) (ls : Array Slot) (hl : lv_has ls 2 []) (h0 : b_X7_lowestBit_25 = some res), W p l e rm_X7_lowestBit s m args below meth c H locs 0 0 Q (F0 m 25 ls []) := by
    intro  H locs X ls hl h0
    unfold b_X7_lowestBit_25 at h0
    refine lv_iconst (v := (-1)) hx hb dX7_lowestBit_25 (by decide) ?_
    have h0 := Option.some.inj h0
    subst h0
    subst hQ
    exact w_iret K hr0 X rfl hsz dX7_lowestBit_26
  refine lv_iconst (v := 0) hx hb dX7_lowestBit_0 (by decide) ?_
  refine lv_istore_n (lv' := [(1, .int 0), (0, .int a1)]) hx hb dX7_lowestBit_1 rfl hl (by decide) rfl (fun ls hl => ?_)
  obtain ⟨e_1, he1, h0⟩ := ob_out h0
  have K2 : ∀ (k : Nat) (z2_1 : Int32) (H : Heap) (locs : List Loc) (X : RW D (ws) s.heap H locs) (ls : Array Slot) (hl : lv_has ls 2 [(0, .int a1), (1, .int z2_1)]) (hw : wloop (fun t => l_X7_lowestBit_2 a1 t) k z2_1 = some e_1), W p l e rm_X7_lowestBit s m args below meth c H locs 0 0 Q (F0 m 2 ls []) := by
    intro k
    induction k with
    | zero => intro z2_1 H locs X ls hl hw; exact (wloop_0 hw).elim
    | succ k ih1 =>
      intro z2_1 H locs X ls hl hw
      obtain ⟨x_1, h1, hx1⟩ := wloop_out hw
      have h1 : l_X7_lowestBit_2 a1 z2_1 = some x_1 := h1
      unfold l_X7_lowestBit_2 at h1
      refine lv_iload_n hx hb dX7_lowestBit_2 rfl (lv_at hl 1 rfl) ?_
      refine lv_bipush (v := 12) hx hb dX7_lowestBit_3 (by decide) ?_
      refine lv_icmp_ge (tgt := 25) hx hb dX7_lowestBit_5 (by decide) (fun c1 => ?_) (fun c1 => ?_)
      · have h1 := if_t c1 h1
        have q1 := wl_r h1 hx1
        exact J25  H locs X ls (lv_sub hl [] rfl) (by rw [q1] at h0; exact h0)
      · have h1 := if_f c1 h1
        refine lv_iload_n hx hb dX7_lowestBit_8 rfl (lv_at hl 0 rfl) ?_
        refine lv_iload_n hx hb dX7_lowestBit_9 rfl (lv_at hl 1 rfl) ?_
        refine lv_ishr hx hb dX7_lowestBit_10 ?_
        refine lv_iconst (v := 1) hx hb dX7_lowestBit_11 (by decide) ?_
        refine lv_iand hx hb dX7_lowestBit_12 ?_
        refine lv_iconst (v := 1) hx hb dX7_lowestBit_13 (by decide) ?_
        refine lv_icmp_ne (tgt := 19) hx hb dX7_lowestBit_14 (by decide) (fun c2 => ?_) (fun c2 => ?_)
        · have h1 := if_f c2 h1
          obtain ⟨x3, ex3, h1⟩ := lt_out h1
          refine lv_iinc (v := x3) (lv' := [(1, .int x3), (0, .int a1)]) hx hb dX7_lowestBit_19 hl (k := 1) rfl (by rw [ex3]; rfl) (by decide) rfl (fun ls hl => ?_)
          refine lv_goto (tgt := 2) hx hb dX7_lowestBit_22 (by decide) ?_
          exact ih1 x3 H locs X ls (lv_sub hl [1, 0] rfl) (wl_l h1 hx1)
        · have h1 := if_t c2 h1
          refine lv_iload_n hx hb dX7_lowestBit_17 rfl (lv_at hl 1 rfl) ?_
          have q1 := wl_r h1 hx1
          rw [q1] at h0
          have h0 : some z2_1 = some res := h0
          have h0 := Option.some.inj h0
          subst h0
          subst hQ
          exact w_iret K hr0 X rfl hsz dX7_lowestBit_18
  exact K2 n 0 H locs X ls (lv_sub hl [1, 0] rfl) he1
-- X7_query
def f_X7_query (n : Nat) (P : RowsS) (G : GlbS) (a1 : Int32) : Option (Int32 × GlbS) :=
  ob (f_X7_requireWithin a1 0 (jmin 200 (G 3 1))) fun x1 =>
  ob (f_X5_begin n G a1) fun x2 =>
  lt (x2) fun Gv3 =>
  ob (f_X2_wantsMany n (P 0) Gv3) fun x4 =>
  lt (x4.2) fun Gv5 =>
  lt (x4.1) fun x6 =>
  ob (f_X2_test n (f_X2_factor n 7) (P 0) Gv5 0) fun x7 =>
  lt (x7.2) fun Gv8 =>
  lt (x7.1) fun x9 =>
  lt (f_X5_takeEnd Gv8) fun x10 =>
  lt (x10) fun Gv11 =>
  lt (f_X5_empty Gv11) fun x12 =>
  lt (x12) fun Gv13 =>
  if (Gv13 3 7) = 0 then
    if x6 = true then
      lt (f_J6_bitCount_0f7a4 x9) fun x17 =>
      some (x17, Gv13)
    else
      ob (f_X7_lowestBit n x9) fun x16 =>
      some (x16, Gv13)
  else
    some (((-1000000000) - (Gv13 3 7)), Gv13)
abbrev rm_X7_query : Room := { frames := 64, cells := 1, slots := 2, locals := 5058 }
set_option maxRecDepth 100000 in
set_option maxHeartbeats 4000000 in
theorem m_X7_query (l : Launch) (D : va_G) (ca : Nat → ClassId) (ar : Nat → Nat → Nat) (ag : Nat → Nat) (z : ZG) (n : Nat) (P : RowsS) (G : GlbS) (xs : va_W) (a1 : Int32) (res : Int32) (G' : GlbS) (h0 : f_X7_query n P G a1 = some (res, G')) (sz : Nat) : Met l yX7_query (ws_ yX7_query cX7_query 5 (some .int)) rm_X7_query (PCz z D ca (wC ar ag ca P G ++ xs) sz [.ref (ag 0), .int a1]) (QMw D (wC ar ag ca P G ++ xs) (wC ar ag ca P (G') ++ xs) sz (some (.int res))) 1 2 (AL (wC ar ag ca P G ++ xs) sz) := by
  refine met_z (by decide +kernel) (Nat.le_of_ble_eq_true rfl) (fun p e s m args below meth c K hr0 hZ X hsz ls hl => ?_)
  have K : MC D ca p s m args meth c cX7_query 5 RX7 := K
  have hx := K.1
  have hb := K.2.1
  have hl : lv_has ls 5 [(0, .ref (ag 0)), (1, .int a1)] := hl
  generalize hQ : MQ below _ args s 1 2 _ = Q
  unfold f_X7_query at h0
  suffices Z : ∀ (H : Heap) (locs : List Loc) (X : RW D (wC ar ag ca P G ++ xs) s.heap H locs), W p l e rm_X7_query s m args below meth c H locs 0 0 Q (F0 m 0 ls []) from Z _ _ X
  intro H locs X
  refine lv_iload_n hx hb dX7_query_0 rfl (lv_at hl 1 rfl) ?_
  refine lv_iconst (v := 0) hx hb dX7_query_1 (by decide) ?_
  refine lv_sipush (v := 200) hx hb dX7_query_2 (by decide) ?_
  refine lv_aload_n hx hb dX7_query_5 rfl (lv_at hl 0 rfl) ?_
  refine g_objr K X 4 (by decide) rfl q365 dX7_query_6 ?_
  refine g_toki K X 1 (by decide) q283 dX7_query_9 ?_
  refine w_mmin K hl.1 q936 q479 q102 q480 (Nat.le_of_ble_eq_true rfl) (Nat.le_of_ble_eq_true rfl) (Nat.le_of_ble_eq_true rfl) (Nat.le_of_ble_eq_true rfl) dX7_query_12 ?_
  obtain ⟨x1, ex1, h0⟩ := ob_out h0
  have kx1 := m_X7_requireWithin l D ca z (wC ar ag ca P G ++ xs) a1 0 (jmin 200 (G 3 1))  ex1 H.size
  refine z_callS K hZ X wC_fstx wC_fstx kx1 hl.1 3 q557 q558 q87 q559 hs_X7_requireWithin ⟨⟨Nat.le_of_ble_eq_true rfl, Nat.le_of_ble_eq_true rfl⟩, rfl, rfl⟩ rfl rfl (Nat.le_of_ble_eq_true rfl) dX7_query_15 ⟨Nat.le_of_ble_eq_true rfl, Nat.le_of_ble_eq_true rfl⟩ rfl (fun H locs X => ?_)
  refine lv_aload_n hx hb dX7_query_18 rfl (lv_at hl 0 rfl) ?_
  refine g_objr K X 4 (by decide) rfl q365 dX7_query_19 ?_
  refine lv_iload_n hx hb dX7_query_22 rfl (lv_at hl 1 rfl) ?_
  obtain ⟨x2, ex2, h0⟩ := ob_out h0
  obtain ⟨Gv3, eGv3, h0⟩ := lt_out h0
  have kx2 := m_X5_begin l D ca ar ag n P G xs a1 x2 ex2 H.size
  rw [← eGv3] at kx2
  refine w_callV0 K X wC_fstx kx2 hl.1 1 q626 q627 q628 q92 q629 hv_X5_begin ⟨⟨Nat.le_of_ble_eq_true rfl, Nat.le_of_ble_eq_true rfl⟩, rfl, rfl⟩ (pl_glb (k := 3) (by decide)) rfl rfl rfl rfl (Nat.le_of_ble_eq_true rfl) dX7_query_23 ⟨Nat.le_of_ble_eq_true rfl, Nat.le_of_ble_eq_true rfl⟩ rfl (fun H locs X => ?_)
  refine z_newg K hZ X wC_fstx iX2 tyX2 tyX2_ok q1295 q1296 q112 (ci := 4) rfl (fs := [.null, .null]) (fun j hj => by rcases j with _ | _ | j <;> first | rfl | omega) (Nat.le_of_ble_eq_true rfl) (Nat.le_of_ble_eq_true rfl) dX7_query_26 (fun gq H hdr hzz X => ?_)
  refine lv_dup hx hb dX7_query_29 rfl ?_
  refine lv_aload_n hx hb dX7_query_30 rfl (lv_at hl 0 rfl) ?_
  refine g_objr K X 4 (by decide) rfl q365 dX7_query_31 ?_
  refine lv_aload_n hx hb dX7_query_34 rfl (lv_at hl 0 rfl) ?_
  refine g_objr K X 0 (by decide) rfl q361 dX7_query_35 ?_
  have kI := m_X2_init l D ca ar ag P Gv3 xs gq (ag 3) (ar 0 0) H.size
  refine w_callI K X ctor_fst kI hl.1 2 q1297 q1298 q112 q1299 rfl hs_X2_init ⟨⟨Nat.le_of_ble_eq_true rfl, Nat.le_of_ble_eq_true rfl⟩, rfl, rfl⟩ rfl rfl (Nat.le_of_ble_eq_true rfl) dX7_query_38 ⟨Nat.le_of_ble_eq_true rfl, Nat.le_of_ble_eq_true rfl⟩ (fun H locs X => ?_)
  have hg : (xs ++ [(gq, .inr (4, [.ref (ag 3), .ref (ar 0 0)]))] : va_W)[xs.length]? = some (gq, .inr (4, [.ref (ag 3), .ref (ar 0 0)])) := ctor_at
  have hZ := hzz [.ref (ag 3), .ref (ar 0 0)]
  have hdr := fun P G H locs => hdr P G [.ref (ag 3), .ref (ar 0 0)] H locs
  generalize xs ++ [(gq, .inr (4, [.ref (ag 3), .ref (ar 0 0)]))] = xs2 at X hg hZ hdr
  refine lv_astore_n (lv' := [(2, .ref gq), (0, .ref (ag 0)), (1, .int a1)]) hx hb dX7_query_41 rfl hl (by decide) rfl (fun ls hl => ?_)
  refine lv_aload_n hx hb dX7_query_42 rfl (lv_at hl 0 rfl) ?_
  obtain ⟨x4, ex4, h0⟩ := ob_out h0
  obtain ⟨Gv5, eGv5, h0⟩ := lt_out h0
  have kx4 := m_X2_wantsMany l D ca ar ag z n P 0 (P 0) Gv3 xs2 (by decide) gq xs.length hg x4.1 x4.2 ex4 H.size
  rw [up_self, ← eGv5] at kx4
  refine z_callV K hZ X wC_fstx wC_fstx kx4 hl.1 0 q1308 q1309 q1310 q112 q1311 hv_X2_wantsMany ⟨⟨Nat.le_of_ble_eq_true rfl, Nat.le_of_ble_eq_true rfl⟩, rfl, rfl⟩ (z_recvw K X (pl_xs.trans hg) rfl rfl) rfl rfl (Nat.le_of_ble_eq_true rfl) dX7_query_43 ⟨Nat.le_of_ble_eq_true rfl, Nat.le_of_ble_eq_true rfl⟩ rfl (fun H locs X => ?_)
  obtain ⟨x6, ex6, h0⟩ := lt_out h0
  refine w_int (congrArg b2i ex6) ?_
  refine lv_istore_n (lv' := [(3, .int (b2i x6)), (2, .ref gq), (0, .ref (ag 0)), (1, .int a1)]) hx hb dX7_query_46 rfl hl (by decide) rfl (fun ls hl => ?_)
  refine lv_aload_n hx hb dX7_query_47 rfl (lv_at hl 1 rfl) ?_
  refine lv_iconst (v := 0) hx hb dX7_query_48 (by decide) ?_
  obtain ⟨x7, ex7, h0⟩ := ob_out h0
  obtain ⟨Gv8, eGv8, h0⟩ := lt_out h0
  have kx7 := m_X2_test l D ca ar ag z n P 0 (P 0) Gv5 xs2 (by decide) gq xs.length hg 0 (f_X2_factor n 7) 7 (M_X2_factor l D ca ar ag z n P 0 xs2 (by decide) gq xs.length hg 7) x7.1 x7.2 ex7 H.size
  rw [up_self, ← eGv8] at kx7
  refine z_callVN K hZ X wC_fstx wC_fstx kx7 hl.1 1 (hZ.2.2.2.2.2.2.2.2.1 _ (List.mem_of_getElem? (i := 3) rfl)) q1319 q12 q112 q1320 hs_X2_test ⟨⟨Nat.le_of_ble_eq_true rfl, Nat.le_of_ble_eq_true rfl⟩, rfl, rfl⟩ (z_recvw K X (pl_xs.trans hg) rfl rfl) rfl rfl (Nat.le_of_ble_eq_true rfl) dX7_query_49 ⟨Nat.le_of_ble_eq_true rfl, Nat.le_of_ble_eq_true rfl⟩ rfl (fun H locs X => ?_)
  obtain ⟨x9, ex9, h0⟩ := lt_out h0
  refine w_int ex9 ?_
  refine lv_istore (lv' := [(4, .int x9), (3, .int (b2i x6)), (2, .ref gq), (0, .ref (ag 0)), (1, .int a1)]) hx hb dX7_query_52 hl (by decide) rfl (fun ls hl => ?_)
  refine lv_aload_n hx hb dX7_query_54 rfl (lv_at hl 3 rfl) ?_
  refine g_objr K X 4 (by decide) rfl q365 dX7_query_55 ?_
  obtain ⟨x10, ex10, h0⟩ := lt_out h0
  obtain ⟨Gv11, eGv11, h0⟩ := lt_out h0
  have kx10 := m_X5_takeEnd l D ca ar ag P Gv8 xs2 x10 ex10.symm H.size
  rw [← eGv11] at kx10
  refine w_callV0 K X wC_fstx kx10 hl.1 0 q1367 q1368 q1369 q92 q1370 hv_X5_takeEnd ⟨⟨Nat.le_of_ble_eq_true rfl, Nat.le_of_ble_eq_true rfl⟩, rfl, rfl⟩ (pl_glb (k := 3) (by decide)) rfl rfl rfl rfl (Nat.le_of_ble_eq_true rfl) dX7_query_58 ⟨Nat.le_of_ble_eq_true rfl, Nat.le_of_ble_eq_true rfl⟩ rfl (fun H locs X => ?_)
  refine lv_aload_n hx hb dX7_query_61 rfl (lv_at hl 3 rfl) ?_
  refine g_objr K X 4 (by decide) rfl q365 dX7_query_62 ?_
  obtain ⟨x12, ex12, h0⟩ := lt_out h0
  obtain ⟨Gv13, eGv13, h0⟩ := lt_out h0
  have kx12 := m_X5_empty l D ca ar ag P Gv11 xs2 x12 ex12.symm H.size
  rw [← eGv13] at kx12
  refine w_callV0 K X wC_fstx kx12 hl.1 0 q759 q760 q761 q92 q762 hv_X5_empty ⟨⟨Nat.le_of_ble_eq_true rfl, Nat.le_of_ble_eq_true rfl⟩, rfl, rfl⟩ (pl_glb (k := 3) (by decide)) rfl rfl rfl rfl (Nat.le_of_ble_eq_true rfl) dX7_query_65 ⟨Nat.le_of_ble_eq_true rfl, Nat.le_of_ble_eq_true rfl⟩ rfl (fun H locs X => ?_)
  refine lv_aload_n hx hb dX7_query_68 rfl (lv_at hl 3 rfl) ?_
  refine g_objr K X 4 (by decide) rfl q365 dX7_query_69 ?_
  refine g_toki K X 7 (by decide) q291 dX7_query_72 ?_
  refine lv_if_eq (tgt := 89) hx hb dX7_query_75 (by decide) (fun c14 => ?_) (fun c14 => ?_)
  · have h0 := if_t c14 h0
    refine lv_iload_n hx hb dX7_query_89 rfl (lv_at hl 1 rfl) ?_
    refine w_zeq (tgt := 101) K dX7_query_90 (by decide) (fun c15 => ?_) (fun c15 => ?_)
    · have h0 := if_f c15 h0
      refine lv_iload hx hb dX7_query_101 (lv_at hl 0 rfl) ?_
      obtain ⟨x16, ex16, h0⟩ := ob_out h0
      have kx16 := m_X7_lowestBit l D ca n (wC ar ag ca P Gv13 ++ xs2) x9 x16 ex16 H.size
      refine w_callS0 K X wC_fstx kx16 hl.1 1 q1377 q1378 q87 q1379 hs_X7_lowestBit ⟨⟨Nat.le_of_ble_eq_true rfl, Nat.le_of_ble_eq_true rfl⟩, rfl, rfl⟩ rfl rfl (Nat.le_of_ble_eq_true rfl) dX7_query_103 ⟨Nat.le_of_ble_eq_true rfl, Nat.le_of_ble_eq_true rfl⟩ rfl (fun H locs X => ?_)
      have h0 := Option.some.inj h0
      obtain ⟨q_0, q_1⟩ := Prod.mk.inj h0
      subst q_0
      subst q_1
      subst hQ
      exact w_iret K hr0 (hdr _ _ _ _ X) wC_fstx hsz dX7_query_106
    · have h0 := if_t c15 h0
      refine lv_iload hx hb dX7_query_93 (lv_at hl 0 rfl) ?_
      obtain ⟨x17, ex17, h0⟩ := lt_out h0
      have kx17 := m_J6_bitCount_0f7a4 l D ca (wC ar ag ca P Gv13 ++ xs2) x9 x17 ex17.symm H.size
      refine w_callS0 K X wC_fstx kx17 hl.1 1 q1371 q1372 q111 q1373 hs_J6_bitCount_0f7a4 ⟨⟨Nat.le_of_ble_eq_true rfl, Nat.le_of_ble_eq_true rfl⟩, rfl, rfl⟩ rfl rfl (Nat.le_of_ble_eq_true rfl) dX7_query_95 ⟨Nat.le_of_ble_eq_true rfl, Nat.le_of_ble_eq_true rfl⟩ rfl (fun H locs X => ?_)
      refine lv_goto (tgt := 106) hx hb dX7_query_98 (by decide) ?_
      have h0 := Option.some.inj h0
      obtain ⟨q_0, q_1⟩ := Prod.mk.inj h0
      subst q_0
      subst q_1
      subst hQ
      exact w_iret K hr0 (hdr _ _ _ _ X) wC_fstx hsz dX7_query_106
  · have h0 := if_f c14 h0
    refine lv_ldc hx hb K.2.2.2.1 (K.2.2.2.2.1 _ q905) dX7_query_78 ?_
    refine lv_aload_n hx hb dX7_query_80 rfl (lv_at hl 3 rfl) ?_
    refine g_objr K X 4 (by decide) rfl q365 dX7_query_81 ?_
    refine g_toki K X 7 (by decide) q291 dX7_query_84 ?_
    refine lv_isub hx hb dX7_query_87 ?_
    have h0 := Option.some.inj h0
    obtain ⟨q_0, q_1⟩ := Prod.mk.inj h0
    subst q_0
    subst q_1
    subst hQ
    exact w_iret K hr0 (hdr _ _ _ _ X) wC_fstx hsz dX7_query_88
