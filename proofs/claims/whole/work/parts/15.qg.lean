-- X2_wantsMany
def f_X2_wantsMany (n : Nat) (R : RowS) (G : GlbS) : Option (Bool × GlbS) :=
  ob (f_X5_isWord n G 19) fun x1 =>
  if x1 = true then
    ob (f_X5_advance n G) fun x5 =>
    lt (x5) fun Gv6 =>
    some (x1, Gv6)
  else
    ob (f_X5_takeWord n G 20) fun x3 =>
    lt (x3) fun Gv4 =>
    some (x1, Gv4)
abbrev rm_X2_wantsMany : Room := { frames := 6, cells := 0, slots := 0, locals := 130 }
set_option maxRecDepth 100000 in
set_option maxHeartbeats 4000000 in
theorem m_X2_wantsMany (l : Launch) (D : va_G) (ca : Nat → ClassId) (ar : Nat → Nat → Nat) (ag : Nat → Nat) (z : ZG) (n : Nat) (P : RowsS) (r : Nat) (R : RowS) (G : GlbS) (xs : va_W) (hr : r < 13) (gq gj : Nat) (hg : xs[gj]? = some (gq, .inr (4, [.ref (ag 3), .ref (ar r 0)]))) (res : Bool) (G' : GlbS) (h0 : f_X2_wantsMany n R G = some (res, G')) (sz : Nat) : Met l yX2_wantsMany (ws_ yX2_wantsMany cX2_wantsMany 2 (some .boolean)) rm_X2_wantsMany (PCz z D ca (wC ar ag ca (va_up P r R) G ++ xs) sz [.ref gq]) (QMw D (wC ar ag ca (va_up P r R) G ++ xs) (wC ar ag ca (va_up P r R) (G') ++ xs) sz (some (.int (b2i res)))) 0 0 (AL (wC ar ag ca (va_up P r R) G ++ xs) sz) := by
  refine met_z (by decide +kernel) (Nat.le_of_ble_eq_true rfl) (fun p e s m args below meth c K hr0 hZ X hsz ls hl => ?_)
  have K : MC D ca p s m args meth c cX2_wantsMany 2 RX2 := K
  have hx := K.1
  have hb := K.2.1
  have hl : lv_has ls 2 [(0, .ref gq)] := hl
  generalize hQ : MQ below _ args s 0 0 _ = Q
  unfold f_X2_wantsMany at h0
  suffices Z : ∀ (H : Heap) (locs : List Loc) (X : RW D (wC ar ag ca (va_up P r R) G ++ xs) s.heap H locs), W p l e rm_X2_wantsMany s m args below meth c H locs 0 0 Q (F0 m 0 ls []) from Z _ _ X
  intro H locs X
  refine lv_aload_n hx hb dX2_wantsMany_0 rfl (lv_at hl 0 rfl) ?_
  refine g_gram2 K X hg 0 (by decide) rfl q1301 dX2_wantsMany_1 ?_
  refine z_ldc K hZ 19 (by decide) ⟨rfl, rfl⟩ dX2_wantsMany_4 ?_
  obtain ⟨x1, ex1, h0⟩ := ob_out h0
  have kx1 := m_X5_isWord l D ca ar ag z n (va_up P r R) G xs 19 (by decide) x1 ex1 H.size
  refine z_callV K hZ X wC_fstx wC_fstx kx1 hl.1 1 q1313 q669 q670 q92 q671 hv_X5_isWord ⟨⟨Nat.le_of_ble_eq_true rfl, Nat.le_of_ble_eq_true rfl⟩, rfl, rfl⟩ (z_recvw K X (pl_glb (k := 3) (by decide)) rfl rfl) rfl rfl (Nat.le_of_ble_eq_true rfl) dX2_wantsMany_6 ⟨Nat.le_of_ble_eq_true rfl, Nat.le_of_ble_eq_true rfl⟩ rfl (fun H locs X => ?_)
  refine lv_istore_n (lv' := [(1, .int (b2i x1)), (0, .ref gq)]) hx hb dX2_wantsMany_9 rfl hl (by decide) rfl (fun ls hl => ?_)
  refine lv_iload_n hx hb dX2_wantsMany_10 rfl (lv_at hl 0 rfl) ?_
  refine w_zeq (tgt := 24) K dX2_wantsMany_11 (by decide) (fun c2 => ?_) (fun c2 => ?_)
  · have h0 := if_f c2 h0
    refine lv_aload_n hx hb dX2_wantsMany_24 rfl (lv_at hl 1 rfl) ?_
    refine g_gram2 K X hg 0 (by decide) rfl q1301 dX2_wantsMany_25 ?_
    refine z_ldc K hZ 20 (by decide) ⟨rfl, rfl⟩ dX2_wantsMany_28 ?_
    obtain ⟨x3, ex3, h0⟩ := ob_out h0
    obtain ⟨Gv4, eGv4, h0⟩ := lt_out h0
    have kx3 := m_X5_takeWord l D ca ar ag z n (va_up P r R) G xs 20 (by decide) x3 ex3 H.size
    rw [← eGv4] at kx3
    refine z_callV K hZ X wC_fstx wC_fstx kx3 hl.1 1 q1316 q665 q666 q92 q667 hv_X5_takeWord ⟨⟨Nat.le_of_ble_eq_true rfl, Nat.le_of_ble_eq_true rfl⟩, rfl, rfl⟩ (z_recvw K X (pl_glb (k := 3) (by decide)) rfl rfl) rfl rfl (Nat.le_of_ble_eq_true rfl) dX2_wantsMany_30 ⟨Nat.le_of_ble_eq_true rfl, Nat.le_of_ble_eq_true rfl⟩ rfl (fun H locs X => ?_)
    refine lv_iload_n hx hb dX2_wantsMany_33 rfl (lv_at hl 0 rfl) ?_
    have h0 := Option.some.inj h0
    obtain ⟨q_0, q_1⟩ := Prod.mk.inj h0
    subst q_0
    subst q_1
    subst hQ
    exact w_zret K hr0 X wC_fstx hsz (b2i_nar _) dX2_wantsMany_34
  · have h0 := if_t c2 h0
    refine lv_aload_n hx hb dX2_wantsMany_14 rfl (lv_at hl 1 rfl) ?_
    refine g_gram2 K X hg 0 (by decide) rfl q1301 dX2_wantsMany_15 ?_
    obtain ⟨x5, ex5, h0⟩ := ob_out h0
    obtain ⟨Gv6, eGv6, h0⟩ := lt_out h0
    have kx5 := m_X5_advance l D ca ar ag n (va_up P r R) G xs x5 ex5 H.size
    rw [← eGv6] at kx5
    refine w_callV0 K X wC_fstx kx5 hl.1 0 q1314 q632 q633 q92 q634 hv_X5_advance ⟨⟨Nat.le_of_ble_eq_true rfl, Nat.le_of_ble_eq_true rfl⟩, rfl, rfl⟩ (pl_glb (k := 3) (by decide)) rfl rfl rfl rfl (Nat.le_of_ble_eq_true rfl) dX2_wantsMany_18 ⟨Nat.le_of_ble_eq_true rfl, Nat.le_of_ble_eq_true rfl⟩ rfl (fun H locs X => ?_)
    refine lv_goto (tgt := 33) hx hb dX2_wantsMany_21 (by decide) ?_
    refine lv_iload_n hx hb dX2_wantsMany_33 rfl (lv_at hl 0 rfl) ?_
    have h0 := Option.some.inj h0
    obtain ⟨q_0, q_1⟩ := Prod.mk.inj h0
    subst q_0
    subst q_1
    subst hQ
    exact w_zret K hr0 X wC_fstx hsz (b2i_nar _) dX2_wantsMany_34
-- X2_conjunction
def b_X2_conjunction_58  (y58_l2 : Int32) (G_58 : GlbS) : Option (Int32 × GlbS) :=
  some (y58_l2, G_58)
def l_X2_conjunction_8 (n : Nat) (ff : RowS → GlbS → Int32 → Option (Int32 × GlbS)) (R : RowS) (a1 : Int32) (z8_2 : Int32) (z8_3 : Int32) (Gz_8 : GlbS) : Option ((Int32 × Int32 × GlbS) ⊕ (Int32 × GlbS)) :=
  if 200 ≤ z8_3 then
    some (.inr (z8_2, Gz_8))
  else
    lt (f_X5_goesOn Gz_8) fun x5 =>
    if x5 = true then
      ob (f_X5_isWord n Gz_8 31) fun x7 =>
      if x7 = true then
        ob (f_X5_advance n Gz_8) fun x9 =>
        lt (x9) fun Gv10 =>
        ob (ff R Gv10 a1) fun x11 =>
        lt (x11.2) fun Gv12 =>
        lt (z8_2 &&& x11.1) fun x13 =>
        lt (z8_3 + 1) fun x14 =>
        some (.inl (x13, x14, Gv12))
      else
        some (.inr (z8_2, Gz_8))
    else
      some (.inr (z8_2, Gz_8))
def f_X2_conjunction (n : Nat) (ff : RowS → GlbS → Int32 → Option (Int32 × GlbS)) (R : RowS) (G : GlbS) (a1 : Int32) : Option (Int32 × GlbS) :=
  ob (ff R G a1) fun x1 =>
  lt (x1.2) fun Gv2 =>
  lt (x1.1) fun x3 =>
  ob (wloop (fun t => l_X2_conjunction_8 n ff R a1 t.1 t.2.1 t.2.2) n (x3, 0, Gv2)) (fun t => b_X2_conjunction_58 t.1 t.2)
abbrev rm_X2_factor (k : Nat) : Room := { frames := 40 + 3 * k, cells := 0, slots := 0, locals := 4000 + 69 * k }
abbrev rm_X2_conjunction (k : Nat) : Room := { frames := 41 + 3 * k, cells := 0, slots := 0, locals := 4023 + 69 * k }
abbrev rm_X2_test (k : Nat) : Room := { frames := 42 + 3 * k, cells := 0, slots := 0, locals := 4046 + 69 * k }
set_option maxRecDepth 100000 in
set_option maxHeartbeats 4000000 in
theorem m_X2_conjunction (l : Launch) (D : va_G) (ca : Nat → ClassId) (ar : Nat → Nat → Nat) (ag : Nat → Nat) (z : ZG) (n : Nat) (P : RowsS) (r : Nat) (R : RowS) (G : GlbS) (xs : va_W) (hr : r < 13) (gq gj : Nat) (hg : xs[gj]? = some (gq, .inr (4, [.ref (ag 3), .ref (ar r 0)]))) (a1 : Int32) (ff : RowS → GlbS → Int32 → Option (Int32 × GlbS)) (kr : Nat) (hF : ∀ (R : RowS) (G : GlbS) (a1 res : Int32) (G' : GlbS), ff R G a1 = some (res, G') → ∀ sz : Nat, Met l yX2_factor (ws_ yX2_factor cX2_factor 4 (some .int)) (rm_X2_factor kr) (PCz z D ca (wC ar ag ca (va_up P r R) G ++ xs) sz [.ref gq, .int a1]) (QMw D (wC ar ag ca (va_up P r R) G ++ xs) (wC ar ag ca (va_up P r R) G' ++ xs) sz (some (.int res))) 0 0 (AL (wC ar ag ca (va_up P r R) G ++ xs) sz)) (res : Int32) (G' : GlbS) (h0 : f_X2_conjunction n ff R G a1 = some (res, G')) (sz : Nat) : Met l yX2_conjunction (ws_ yX2_conjunction cX2_conjunction 4 (some .int)) (rm_X2_conjunction kr) (PCz z D ca (wC ar ag ca (va_up P r R) G ++ xs) sz [.ref gq, .int a1]) (QMw D (wC ar ag ca (va_up P r R) G ++ xs) (wC ar ag ca (va_up P r R) (G') ++ xs) sz (some (.int res))) 0 0 (AL (wC ar ag ca (va_up P r R) G ++ xs) sz) := by
  refine met_z (by decide +kernel) (Nat.le_of_ble_eq_true rfl) (fun p e s m args below meth c K hr0 hZ X hsz ls hl => ?_)
  have K : MC D ca p s m args meth c cX2_conjunction 4 RX2 := K
  have hx := K.1
  have hb := K.2.1
  have hl : lv_has ls 4 [(0, .ref gq), (1, .int a1)] := hl
  generalize hQ : MQ below _ args s 0 0 _ = Q
  unfold f_X2_conjunction at h0
  suffices Z : ∀ (H : Heap) (locs : List Loc) (X : RW D (wC ar ag ca (va_up P r R) G ++ xs) s.heap H locs), W p l e (rm_X2_conjunction kr) s m args below meth c H locs 0 0 Q (F0 m 0 ls []) from Z _ _ X
  intro H locs X
  have J58 : ∀ (y58_l2 : Int32) (G_58 : GlbS) (H : Heap) (locs : List Loc) (X : RW D (wC ar ag ca (va_up P r R) G_58 ++ xs) s.heap H locs) (ls : Array Slot) (hl : lv_has ls 4 [(2, .int y58_l2)]) (h0 : b_X2_conjunction_58 y58_l2 G_58 = some (res, G')), W p l e (rm_X2_conjunction kr) s m args below meth c H locs 0 0 Q (F0 m 58 ls []) := by
    intro y58_l2 G_58 H locs X ls hl h0
    unfold b_X2_conjunction_58 at h0
    refine lv_iload_n hx hb dX2_conjunction_58 rfl (lv_at hl 0 rfl) ?_
    have h0 := Option.some.inj h0
    obtain ⟨q_0, q_1⟩ := Prod.mk.inj h0
    subst q_0
    subst q_1
    subst hQ
    exact w_iret K hr0 X wC_fstx hsz dX2_conjunction_59
  refine lv_aload_n hx hb dX2_conjunction_0 rfl (lv_at hl 0 rfl) ?_
  refine lv_iload_n hx hb dX2_conjunction_1 rfl (lv_at hl 1 rfl) ?_
  obtain ⟨x1, ex1, h0⟩ := ob_out h0
  obtain ⟨Gv2, eGv2, h0⟩ := lt_out h0
  have kx1 := hF R G a1 x1.1 x1.2 ex1 H.size
  rw [← eGv2] at kx1
  refine z_callV K hZ X wC_fstx wC_fstx kx1 hl.1 1 q1325 q1327 q14 q112 q1328 hv_X2_factor ⟨⟨(by dsimp only [rm_X2_factor, rm_X2_conjunction, rm_X2_test, rm_X2_factor]; omega), (by dsimp only [rm_X2_factor, rm_X2_conjunction, rm_X2_test, rm_X2_factor]; omega)⟩, rfl, rfl⟩ (z_recvw K X (pl_xs.trans hg) rfl rfl) rfl rfl (Nat.le_of_ble_eq_true rfl) dX2_conjunction_2 ⟨Nat.le_of_ble_eq_true rfl, Nat.le_of_ble_eq_true rfl⟩ rfl (fun H locs X => ?_)
  obtain ⟨x3, ex3, h0⟩ := lt_out h0
  refine w_int ex3 ?_
  refine lv_istore_n (lv' := [(2, .int x3), (0, .ref gq), (1, .int a1)]) hx hb dX2_conjunction_5 rfl hl (by decide) rfl (fun ls hl => ?_)
  refine lv_iconst (v := 0) hx hb dX2_conjunction_6 (by decide) ?_
  refine lv_istore_n (lv' := [(3, .int 0), (2, .int x3), (0, .ref gq), (1, .int a1)]) hx hb dX2_conjunction_7 rfl hl (by decide) rfl (fun ls hl => ?_)
  obtain ⟨e_1, he1, h0⟩ := ob_out h0
  have K8 : ∀ (k : Nat) (z8_2 : Int32) (z8_3 : Int32) (Gz_8 : GlbS) (H : Heap) (locs : List Loc) (X : RW D (wC ar ag ca (va_up P r R) Gz_8 ++ xs) s.heap H locs) (ls : Array Slot) (hl : lv_has ls 4 [(0, .ref gq), (1, .int a1), (2, .int z8_2), (3, .int z8_3)]) (hw : wloop (fun t => l_X2_conjunction_8 n ff R a1 t.1 t.2.1 t.2.2) k (z8_2, z8_3, Gz_8) = some e_1), W p l e (rm_X2_conjunction kr) s m args below meth c H locs 0 0 Q (F0 m 8 ls []) := by
    intro k
    induction k with
    | zero => intro z8_2 z8_3 Gz_8 H locs X ls hl hw; exact (wloop_0 hw).elim
    | succ k ih1 =>
      intro z8_2 z8_3 Gz_8 H locs X ls hl hw
      obtain ⟨x_1, h1, hx1⟩ := wloop_out hw
      have h1 : l_X2_conjunction_8 n ff R a1 z8_2 z8_3 Gz_8 = some x_1 := h1
      unfold l_X2_conjunction_8 at h1
      refine lv_iload_n hx hb dX2_conjunction_8 rfl (lv_at hl 3 rfl) ?_
      refine lv_sipush (v := 200) hx hb dX2_conjunction_9 (by decide) ?_
      refine lv_icmp_ge (tgt := 58) hx hb dX2_conjunction_12 (by decide) (fun c4 => ?_) (fun c4 => ?_)
      · have h1 := if_t c4 h1
        have q1 := wl_r h1 hx1
        exact J58 z8_2 Gz_8 H locs X ls (lv_sub hl [2] rfl) (by rw [q1] at h0; exact h0)
      · have h1 := if_f c4 h1
        refine lv_aload_n hx hb dX2_conjunction_15 rfl (lv_at hl 0 rfl) ?_
        refine g_gram2 K X hg 0 (by decide) rfl q1301 dX2_conjunction_16 ?_
        obtain ⟨x5, ex5, h1⟩ := lt_out h1
        have kx5 := m_X5_goesOn l D ca ar ag (va_up P r R) Gz_8 xs x5 ex5.symm H.size
        refine w_callV0 K X wC_fstx kx5 hl.1 0 q1364 q720 q721 q92 q722 hv_X5_goesOn ⟨⟨(by dsimp only [rm_X2_factor, rm_X2_conjunction, rm_X2_test, rm_X5_goesOn]; omega), (by dsimp only [rm_X2_factor, rm_X2_conjunction, rm_X2_test, rm_X5_goesOn]; omega)⟩, rfl, rfl⟩ (pl_glb (k := 3) (by decide)) rfl rfl rfl rfl (Nat.le_of_ble_eq_true rfl) dX2_conjunction_19 ⟨Nat.le_of_ble_eq_true rfl, Nat.le_of_ble_eq_true rfl⟩ rfl (fun H locs X => ?_)
        refine w_zeq (tgt := 58) K dX2_conjunction_22 (by decide) (fun c6 => ?_) (fun c6 => ?_)
        · have h1 := if_f c6 h1
          have q1 := wl_r h1 hx1
          exact J58 z8_2 Gz_8 H locs X ls (lv_sub hl [2] rfl) (by rw [q1] at h0; exact h0)
        · have h1 := if_t c6 h1
          refine lv_aload_n hx hb dX2_conjunction_25 rfl (lv_at hl 0 rfl) ?_
          refine g_gram2 K X hg 0 (by decide) rfl q1301 dX2_conjunction_26 ?_
          refine z_ldc K hZ 31 (by decide) ⟨rfl, rfl⟩ dX2_conjunction_29 ?_
          obtain ⟨x7, ex7, h1⟩ := ob_out h1
          have kx7 := m_X5_isWord l D ca ar ag z n (va_up P r R) Gz_8 xs 31 (by decide) x7 ex7 H.size
          refine z_callV K hZ X wC_fstx wC_fstx kx7 hl.1 1 q1313 q669 q670 q92 q671 hv_X5_isWord ⟨⟨(by dsimp only [rm_X2_factor, rm_X2_conjunction, rm_X2_test, rm_X5_isWord]; omega), (by dsimp only [rm_X2_factor, rm_X2_conjunction, rm_X2_test, rm_X5_isWord]; omega)⟩, rfl, rfl⟩ (z_recvw K X (pl_glb (k := 3) (by decide)) rfl rfl) rfl rfl (Nat.le_of_ble_eq_true rfl) dX2_conjunction_31 ⟨Nat.le_of_ble_eq_true rfl, Nat.le_of_ble_eq_true rfl⟩ rfl (fun H locs X => ?_)
          refine w_zeq (tgt := 58) K dX2_conjunction_34 (by decide) (fun c8 => ?_) (fun c8 => ?_)
          · have h1 := if_f c8 h1
            have q1 := wl_r h1 hx1
            exact J58 z8_2 Gz_8 H locs X ls (lv_sub hl [2] rfl) (by rw [q1] at h0; exact h0)
          · have h1 := if_t c8 h1
            refine lv_aload_n hx hb dX2_conjunction_37 rfl (lv_at hl 0 rfl) ?_
            refine g_gram2 K X hg 0 (by decide) rfl q1301 dX2_conjunction_38 ?_
            obtain ⟨x9, ex9, h1⟩ := ob_out h1
            obtain ⟨Gv10, eGv10, h1⟩ := lt_out h1
            have kx9 := m_X5_advance l D ca ar ag n (va_up P r R) Gz_8 xs x9 ex9 H.size
            rw [← eGv10] at kx9
            refine w_callV0 K X wC_fstx kx9 hl.1 0 q1314 q632 q633 q92 q634 hv_X5_advance ⟨⟨(by dsimp only [rm_X2_factor, rm_X2_conjunction, rm_X2_test, rm_X5_advance]; omega), (by dsimp only [rm_X2_factor, rm_X2_conjunction, rm_X2_test, rm_X5_advance]; omega)⟩, rfl, rfl⟩ (pl_glb (k := 3) (by decide)) rfl rfl rfl rfl (Nat.le_of_ble_eq_true rfl) dX2_conjunction_41 ⟨Nat.le_of_ble_eq_true rfl, Nat.le_of_ble_eq_true rfl⟩ rfl (fun H locs X => ?_)
            refine lv_iload_n hx hb dX2_conjunction_44 rfl (lv_at hl 2 rfl) ?_
            refine lv_aload_n hx hb dX2_conjunction_45 rfl (lv_at hl 0 rfl) ?_
            refine lv_iload_n hx hb dX2_conjunction_46 rfl (lv_at hl 1 rfl) ?_
            obtain ⟨x11, ex11, h1⟩ := ob_out h1
            obtain ⟨Gv12, eGv12, h1⟩ := lt_out h1
            have kx11 := hF R Gv10 a1 x11.1 x11.2 ex11 H.size
            rw [← eGv12] at kx11
            refine z_callV K hZ X wC_fstx wC_fstx kx11 hl.1 1 q1325 q1327 q14 q112 q1328 hv_X2_factor ⟨⟨(by dsimp only [rm_X2_factor, rm_X2_conjunction, rm_X2_test, rm_X2_factor]; omega), (by dsimp only [rm_X2_factor, rm_X2_conjunction, rm_X2_test, rm_X2_factor]; omega)⟩, rfl, rfl⟩ (z_recvw K X (pl_xs.trans hg) rfl rfl) rfl rfl (Nat.le_of_ble_eq_true rfl) dX2_conjunction_47 ⟨Nat.le_of_ble_eq_true rfl, Nat.le_of_ble_eq_true rfl⟩ rfl (fun H locs X => ?_)
            refine lv_iand hx hb dX2_conjunction_50 ?_
            obtain ⟨x13, ex13, h1⟩ := lt_out h1
            refine w_int ex13 ?_
            refine lv_istore_n (lv' := [(2, .int x13), (0, .ref gq), (1, .int a1), (3, .int z8_3)]) hx hb dX2_conjunction_51 rfl hl (by decide) rfl (fun ls hl => ?_)
            obtain ⟨x14, ex14, h1⟩ := lt_out h1
            refine lv_iinc (v := x14) (lv' := [(3, .int x14), (2, .int x13), (0, .ref gq), (1, .int a1)]) hx hb dX2_conjunction_52 hl (k := 3) rfl (by rw [ex14]; rfl) (by decide) rfl (fun ls hl => ?_)
            refine lv_goto (tgt := 8) hx hb dX2_conjunction_55 (by decide) ?_
            exact ih1 x13 x14 Gv12 H locs X ls (lv_sub hl [2, 3, 1, 0] rfl) (wl_l h1 hx1)
  exact K8 n x3 0 Gv2 H locs X ls (lv_sub hl [2, 3, 1, 0] rfl) he1
-- X2_test
def b_X2_test_58  (y58_l2 : Int32) (G_58 : GlbS) : Option (Int32 × GlbS) :=
  some (y58_l2, G_58)
def l_X2_test_8 (n : Nat) (ff : RowS → GlbS → Int32 → Option (Int32 × GlbS)) (R : RowS) (a1 : Int32) (z8_2 : Int32) (z8_3 : Int32) (Gz_8 : GlbS) : Option ((Int32 × Int32 × GlbS) ⊕ (Int32 × GlbS)) :=
  if 200 ≤ z8_3 then
    some (.inr (z8_2, Gz_8))
  else
    lt (f_X5_goesOn Gz_8) fun x5 =>
    if x5 = true then
      ob (f_X5_isWord n Gz_8 32) fun x7 =>
      if x7 = true then
        ob (f_X5_advance n Gz_8) fun x9 =>
        lt (x9) fun Gv10 =>
        ob (f_X2_conjunction n ff R Gv10 a1) fun x11 =>
        lt (x11.2) fun Gv12 =>
        lt (z8_2 ||| x11.1) fun x13 =>
        lt (z8_3 + 1) fun x14 =>
        some (.inl (x13, x14, Gv12))
      else
        some (.inr (z8_2, Gz_8))
    else
      some (.inr (z8_2, Gz_8))
def f_X2_test (n : Nat) (ff : RowS → GlbS → Int32 → Option (Int32 × GlbS)) (R : RowS) (G : GlbS) (a1 : Int32) : Option (Int32 × GlbS) :=
  ob (f_X2_conjunction n ff R G a1) fun x1 =>
  lt (x1.2) fun Gv2 =>
  lt (x1.1) fun x3 =>
  ob (wloop (fun t => l_X2_test_8 n ff R a1 t.1 t.2.1 t.2.2) n (x3, 0, Gv2)) (fun t => b_X2_test_58 t.1 t.2)
set_option maxRecDepth 100000 in
set_option maxHeartbeats 4000000 in
theorem m_X2_test (l : Launch) (D : va_G) (ca : Nat → ClassId) (ar : Nat → Nat → Nat) (ag : Nat → Nat) (z : ZG) (n : Nat) (P : RowsS) (r : Nat) (R : RowS) (G : GlbS) (xs : va_W) (hr : r < 13) (gq gj : Nat) (hg : xs[gj]? = some (gq, .inr (4, [.ref (ag 3), .ref (ar r 0)]))) (a1 : Int32) (ff : RowS → GlbS → Int32 → Option (Int32 × GlbS)) (kr : Nat) (hF : ∀ (R : RowS) (G : GlbS) (a1 res : Int32) (G' : GlbS), ff R G a1 = some (res, G') → ∀ sz : Nat, Met l yX2_factor (ws_ yX2_factor cX2_factor 4 (some .int)) (rm_X2_factor kr) (PCz z D ca (wC ar ag ca (va_up P r R) G ++ xs) sz [.ref gq, .int a1]) (QMw D (wC ar ag ca (va_up P r R) G ++ xs) (wC ar ag ca (va_up P r R) G' ++ xs) sz (some (.int res))) 0 0 (AL (wC ar ag ca (va_up P r R) G ++ xs) sz)) (res : Int32) (G' : GlbS) (h0 : f_X2_test n ff R G a1 = some (res, G')) (sz : Nat) : Met l yX2_test (ws_ yX2_test cX2_test 4 (some .int)) (rm_X2_test kr) (PCz z D ca (wC ar ag ca (va_up P r R) G ++ xs) sz [.ref gq, .int a1]) (QMw D (wC ar ag ca (va_up P r R) G ++ xs) (wC ar ag ca (va_up P r R) (G') ++ xs) sz (some (.int res))) 0 0 (AL (wC ar ag ca (va_up P r R) G ++ xs) sz) := by
  refine met_z (by decide +kernel) (Nat.le_of_ble_eq_true rfl) (fun p e s m args below meth c K hr0 hZ X hsz ls hl => ?_)
  have K : MC D ca p s m args meth c cX2_test 4 RX2 := K
  have hx := K.1
  have hb := K.2.1
  have hl : lv_has ls 4 [(0, .ref gq), (1, .int a1)] := hl
  generalize hQ : MQ below _ args s 0 0 _ = Q
  unfold f_X2_test at h0
  suffices Z : ∀ (H : Heap) (locs : List Loc) (X : RW D (wC ar ag ca (va_up P r R) G ++ xs) s.heap H locs), W p l e (rm_X2_test kr) s m args below meth c H locs 0 0 Q (F0 m 0 ls []) from Z _ _ X
  intro H locs X
  have J58 : ∀ (y58_l2 : Int32) (G_58 : GlbS) (H : Heap) (locs : List Loc) (X : RW D (wC ar ag ca (va_up P r R) G_58 ++ xs) s.heap H locs) (ls : Array Slot) (hl : lv_has ls 4 [(2, .int y58_l2)]) (h0 : b_X2_test_58 y58_l2 G_58 = some (res, G')), W p l e (rm_X2_test kr) s m args below meth c H locs 0 0 Q (F0 m 58 ls []) := by
    intro y58_l2 G_58 H locs X ls hl h0
    unfold b_X2_test_58 at h0
    refine lv_iload_n hx hb dX2_test_58 rfl (lv_at hl 0 rfl) ?_
    have h0 := Option.some.inj h0
    obtain ⟨q_0, q_1⟩ := Prod.mk.inj h0
    subst q_0
    subst q_1
    subst hQ
    exact w_iret K hr0 X wC_fstx hsz dX2_test_59
  refine lv_aload_n hx hb dX2_test_0 rfl (lv_at hl 0 rfl) ?_
  refine lv_iload_n hx hb dX2_test_1 rfl (lv_at hl 1 rfl) ?_
  obtain ⟨x1, ex1, h0⟩ := ob_out h0
  obtain ⟨Gv2, eGv2, h0⟩ := lt_out h0
  have kx1 := m_X2_conjunction l D ca ar ag z n P r R G xs hr gq gj hg a1 ff kr hF x1.1 x1.2 ex1 H.size
  rw [← eGv2] at kx1
  refine z_callV K hZ X wC_fstx wC_fstx kx1 hl.1 1 q1321 q1323 q13 q112 q1324 hv_X2_conjunction ⟨⟨(by dsimp only [rm_X2_factor, rm_X2_conjunction, rm_X2_test, rm_X2_conjunction]; omega), (by dsimp only [rm_X2_factor, rm_X2_conjunction, rm_X2_test, rm_X2_conjunction]; omega)⟩, rfl, rfl⟩ (z_recvw K X (pl_xs.trans hg) rfl rfl) rfl rfl (Nat.le_of_ble_eq_true rfl) dX2_test_2 ⟨Nat.le_of_ble_eq_true rfl, Nat.le_of_ble_eq_true rfl⟩ rfl (fun H locs X => ?_)
  obtain ⟨x3, ex3, h0⟩ := lt_out h0
  refine w_int ex3 ?_
  refine lv_istore_n (lv' := [(2, .int x3), (0, .ref gq), (1, .int a1)]) hx hb dX2_test_5 rfl hl (by decide) rfl (fun ls hl => ?_)
  refine lv_iconst (v := 0) hx hb dX2_test_6 (by decide) ?_
  refine lv_istore_n (lv' := [(3, .int 0), (2, .int x3), (0, .ref gq), (1, .int a1)]) hx hb dX2_test_7 rfl hl (by decide) rfl (fun ls hl => ?_)
  obtain ⟨e_1, he1, h0⟩ := ob_out h0
  have K8 : ∀ (k : Nat) (z8_2 : Int32) (z8_3 : Int32) (Gz_8 : GlbS) (H : Heap) (locs : List Loc) (X : RW D (wC ar ag ca (va_up P r R) Gz_8 ++ xs) s.heap H locs) (ls : Array Slot) (hl : lv_has ls 4 [(0, .ref gq), (1, .int a1), (2, .int z8_2), (3, .int z8_3)]) (hw : wloop (fun t => l_X2_test_8 n ff R a1 t.1 t.2.1 t.2.2) k (z8_2, z8_3, Gz_8) = some e_1), W p l e (rm_X2_test kr) s m args below meth c H locs 0 0 Q (F0 m 8 ls []) := by
    intro k
    induction k with
    | zero => intro z8_2 z8_3 Gz_8 H locs X ls hl hw; exact (wloop_0 hw).elim
    | succ k ih1 =>
      intro z8_2 z8_3 Gz_8 H locs X ls hl hw
      obtain ⟨x_1, h1, hx1⟩ := wloop_out hw
      have h1 : l_X2_test_8 n ff R a1 z8_2 z8_3 Gz_8 = some x_1 := h1
      unfold l_X2_test_8 at h1
      refine lv_iload_n hx hb dX2_test_8 rfl (lv_at hl 3 rfl) ?_
      refine lv_sipush (v := 200) hx hb dX2_test_9 (by decide) ?_
      refine lv_icmp_ge (tgt := 58) hx hb dX2_test_12 (by decide) (fun c4 => ?_) (fun c4 => ?_)
      · have h1 := if_t c4 h1
        have q1 := wl_r h1 hx1
        exact J58 z8_2 Gz_8 H locs X ls (lv_sub hl [2] rfl) (by rw [q1] at h0; exact h0)
      · have h1 := if_f c4 h1
        refine lv_aload_n hx hb dX2_test_15 rfl (lv_at hl 0 rfl) ?_
        refine g_gram2 K X hg 0 (by decide) rfl q1301 dX2_test_16 ?_
        obtain ⟨x5, ex5, h1⟩ := lt_out h1
        have kx5 := m_X5_goesOn l D ca ar ag (va_up P r R) Gz_8 xs x5 ex5.symm H.size
        refine w_callV0 K X wC_fstx kx5 hl.1 0 q1364 q720 q721 q92 q722 hv_X5_goesOn ⟨⟨(by dsimp only [rm_X2_factor, rm_X2_conjunction, rm_X2_test, rm_X5_goesOn]; omega), (by dsimp only [rm_X2_factor, rm_X2_conjunction, rm_X2_test, rm_X5_goesOn]; omega)⟩, rfl, rfl⟩ (pl_glb (k := 3) (by decide)) rfl rfl rfl rfl (Nat.le_of_ble_eq_true rfl) dX2_test_19 ⟨Nat.le_of_ble_eq_true rfl, Nat.le_of_ble_eq_true rfl⟩ rfl (fun H locs X => ?_)
        refine w_zeq (tgt := 58) K dX2_test_22 (by decide) (fun c6 => ?_) (fun c6 => ?_)
        · have h1 := if_f c6 h1
          have q1 := wl_r h1 hx1
          exact J58 z8_2 Gz_8 H locs X ls (lv_sub hl [2] rfl) (by rw [q1] at h0; exact h0)
        · have h1 := if_t c6 h1
          refine lv_aload_n hx hb dX2_test_25 rfl (lv_at hl 0 rfl) ?_
          refine g_gram2 K X hg 0 (by decide) rfl q1301 dX2_test_26 ?_
          refine z_ldc K hZ 32 (by decide) ⟨rfl, rfl⟩ dX2_test_29 ?_
          obtain ⟨x7, ex7, h1⟩ := ob_out h1
          have kx7 := m_X5_isWord l D ca ar ag z n (va_up P r R) Gz_8 xs 32 (by decide) x7 ex7 H.size
          refine z_callV K hZ X wC_fstx wC_fstx kx7 hl.1 1 q1313 q669 q670 q92 q671 hv_X5_isWord ⟨⟨(by dsimp only [rm_X2_factor, rm_X2_conjunction, rm_X2_test, rm_X5_isWord]; omega), (by dsimp only [rm_X2_factor, rm_X2_conjunction, rm_X2_test, rm_X5_isWord]; omega)⟩, rfl, rfl⟩ (z_recvw K X (pl_glb (k := 3) (by decide)) rfl rfl) rfl rfl (Nat.le_of_ble_eq_true rfl) dX2_test_31 ⟨Nat.le_of_ble_eq_true rfl, Nat.le_of_ble_eq_true rfl⟩ rfl (fun H locs X => ?_)
          refine w_zeq (tgt := 58) K dX2_test_34 (by decide) (fun c8 => ?_) (fun c8 => ?_)
          · have h1 := if_f c8 h1
            have q1 := wl_r h1 hx1
            exact J58 z8_2 Gz_8 H locs X ls (lv_sub hl [2] rfl) (by rw [q1] at h0; exact h0)
          · have h1 := if_t c8 h1
            refine lv_aload_n hx hb dX2_test_37 rfl (lv_at hl 0 rfl) ?_
            refine g_gram2 K X hg 0 (by decide) rfl q1301 dX2_test_38 ?_
            obtain ⟨x9, ex9, h1⟩ := ob_out h1
            obtain ⟨Gv10, eGv10, h1⟩ := lt_out h1
            have kx9 := m_X5_advance l D ca ar ag n (va_up P r R) Gz_8 xs x9 ex9 H.size
            rw [← eGv10] at kx9
            refine w_callV0 K X wC_fstx kx9 hl.1 0 q1314 q632 q633 q92 q634 hv_X5_advance ⟨⟨(by dsimp only [rm_X2_factor, rm_X2_conjunction, rm_X2_test, rm_X5_advance]; omega), (by dsimp only [rm_X2_factor, rm_X2_conjunction, rm_X2_test, rm_X5_advance]; omega)⟩, rfl, rfl⟩ (pl_glb (k := 3) (by decide)) rfl rfl rfl rfl (Nat.le_of_ble_eq_true rfl) dX2_test_41 ⟨Nat.le_of_ble_eq_true rfl, Nat.le_of_ble_eq_true rfl⟩ rfl (fun H locs X => ?_)
            refine lv_iload_n hx hb dX2_test_44 rfl (lv_at hl 2 rfl) ?_
            refine lv_aload_n hx hb dX2_test_45 rfl (lv_at hl 0 rfl) ?_
            refine lv_iload_n hx hb dX2_test_46 rfl (lv_at hl 1 rfl) ?_
            obtain ⟨x11, ex11, h1⟩ := ob_out h1
            obtain ⟨Gv12, eGv12, h1⟩ := lt_out h1
            have kx11 := m_X2_conjunction l D ca ar ag z n P r R Gv10 xs hr gq gj hg a1 ff kr hF x11.1 x11.2 ex11 H.size
            rw [← eGv12] at kx11
            refine z_callV K hZ X wC_fstx wC_fstx kx11 hl.1 1 q1321 q1323 q13 q112 q1324 hv_X2_conjunction ⟨⟨(by dsimp only [rm_X2_factor, rm_X2_conjunction, rm_X2_test, rm_X2_conjunction]; omega), (by dsimp only [rm_X2_factor, rm_X2_conjunction, rm_X2_test, rm_X2_conjunction]; omega)⟩, rfl, rfl⟩ (z_recvw K X (pl_xs.trans hg) rfl rfl) rfl rfl (Nat.le_of_ble_eq_true rfl) dX2_test_47 ⟨Nat.le_of_ble_eq_true rfl, Nat.le_of_ble_eq_true rfl⟩ rfl (fun H locs X => ?_)
            refine lv_ior hx hb dX2_test_50 ?_
            obtain ⟨x13, ex13, h1⟩ := lt_out h1
            refine w_int ex13 ?_
            refine lv_istore_n (lv' := [(2, .int x13), (0, .ref gq), (1, .int a1), (3, .int z8_3)]) hx hb dX2_test_51 rfl hl (by decide) rfl (fun ls hl => ?_)
            obtain ⟨x14, ex14, h1⟩ := lt_out h1
            refine lv_iinc (v := x14) (lv' := [(3, .int x14), (2, .int x13), (0, .ref gq), (1, .int a1)]) hx hb dX2_test_52 hl (k := 3) rfl (by rw [ex14]; rfl) (by decide) rfl (fun ls hl => ?_)
            refine lv_goto (tgt := 8) hx hb dX2_test_55 (by decide) ?_
            exact ih1 x13 x14 Gv12 H locs X ls (lv_sub hl [2, 3, 1, 0] rfl) (wl_l h1 hx1)
  exact K8 n x3 0 Gv2 H locs X ls (lv_sub hl [2, 3, 1, 0] rfl) he1
-- X2_propertyNamed
def f_X2_propertyNamed (n : Nat) (R : RowS) (G : GlbS) : Option (Int32 × GlbS) :=
  ob (f_X5_isWord n G 22) fun x1 =>
  if x1 = true then
    some (11, G)
  else
    ob (f_X5_isWord n G 23) fun x3 =>
    if x3 = true then
      some (0, G)
    else
      ob (f_X5_isWord n G 24) fun x5 =>
      if x5 = true then
        some (1, G)
      else
        ob (f_X5_isWord n G 25) fun x7 =>
        if x7 = true then
          some (2, G)
        else
          ob (f_X5_isWord n G 26) fun x9 =>
          if x9 = true then
            some (3, G)
          else
            ob (f_X5_isWord n G 27) fun x11 =>
            if x11 = true then
              some (4, G)
            else
              ob (f_X5_isWord n G 28) fun x13 =>
              if x13 = true then
                some (6, G)
              else
                ob (f_X5_isWord n G 29) fun x15 =>
                if x15 = true then
                  some (7, G)
                else
                  ob (f_X5_isWord n G 30) fun x17 =>
                  if x17 = true then
                    some (12, G)
                  else
                    lt (f_X5_fail G 1) fun x19 =>
                    lt (x19) fun Gv20 =>
                    some (12, Gv20)
abbrev rm_X2_propertyNamed : Room := { frames := 5, cells := 0, slots := 0, locals := 109 }
set_option maxRecDepth 100000 in
set_option maxHeartbeats 4000000 in
theorem m_X2_propertyNamed (l : Launch) (D : va_G) (ca : Nat → ClassId) (ar : Nat → Nat → Nat) (ag : Nat → Nat) (z : ZG) (n : Nat) (P : RowsS) (r : Nat) (R : RowS) (G : GlbS) (xs : va_W) (hr : r < 13) (gq gj : Nat) (hg : xs[gj]? = some (gq, .inr (4, [.ref (ag 3), .ref (ar r 0)]))) (res : Int32) (G' : GlbS) (h0 : f_X2_propertyNamed n R G = some (res, G')) (sz : Nat) : Met l yX2_propertyNamed (ws_ yX2_propertyNamed cX2_propertyNamed 1 (some .int)) rm_X2_propertyNamed (PCz z D ca (wC ar ag ca (va_up P r R) G ++ xs) sz [.ref gq]) (QMw D (wC ar ag ca (va_up P r R) G ++ xs) (wC ar ag ca (va_up P r R) (G') ++ xs) sz (some (.int res))) 0 0 (AL (wC ar ag ca (va_up P r R) G ++ xs) sz) := by
  refine met_z (by decide +kernel) (Nat.le_of_ble_eq_true rfl) (fun p e s m args below meth c K hr0 hZ X hsz ls hl => ?_)
  have K : MC D ca p s m args meth c cX2_propertyNamed 1 RX2 := K
  have hx := K.1
  have hb := K.2.1
  have hl : lv_has ls 1 [(0, .ref gq)] := hl
  generalize hQ : MQ below _ args s 0 0 _ = Q
  unfold f_X2_propertyNamed at h0
  suffices Z : ∀ (H : Heap) (locs : List Loc) (X : RW D (wC ar ag ca (va_up P r R) G ++ xs) s.heap H locs), W p l e rm_X2_propertyNamed s m args below meth c H locs 0 0 Q (F0 m 0 ls []) from Z _ _ X
  intro H locs X
  refine lv_aload_n hx hb dX2_propertyNamed_0 rfl (lv_at hl 0 rfl) ?_
  refine g_gram2 K X hg 0 (by decide) rfl q1301 dX2_propertyNamed_1 ?_
  refine z_ldc K hZ 22 (by decide) ⟨rfl, rfl⟩ dX2_propertyNamed_4 ?_
  obtain ⟨x1, ex1, h0⟩ := ob_out h0
  have kx1 := m_X5_isWord l D ca ar ag z n (va_up P r R) G xs 22 (by decide) x1 ex1 H.size
  refine z_callV K hZ X wC_fstx wC_fstx kx1 hl.1 1 q1313 q669 q670 q92 q671 hv_X5_isWord ⟨⟨Nat.le_of_ble_eq_true rfl, Nat.le_of_ble_eq_true rfl⟩, rfl, rfl⟩ (z_recvw K X (pl_glb (k := 3) (by decide)) rfl rfl) rfl rfl (Nat.le_of_ble_eq_true rfl) dX2_propertyNamed_6 ⟨Nat.le_of_ble_eq_true rfl, Nat.le_of_ble_eq_true rfl⟩ rfl (fun H locs X => ?_)
  refine w_zeq (tgt := 15) K dX2_propertyNamed_9 (by decide) (fun c2 => ?_) (fun c2 => ?_)
  · have h0 := if_f c2 h0
    refine lv_aload_n hx hb dX2_propertyNamed_15 rfl (lv_at hl 0 rfl) ?_
    refine g_gram2 K X hg 0 (by decide) rfl q1301 dX2_propertyNamed_16 ?_
    refine z_ldc K hZ 23 (by decide) ⟨rfl, rfl⟩ dX2_propertyNamed_19 ?_
    obtain ⟨x3, ex3, h0⟩ := ob_out h0
    have kx3 := m_X5_isWord l D ca ar ag z n (va_up P r R) G xs 23 (by decide) x3 ex3 H.size
    refine z_callV K hZ X wC_fstx wC_fstx kx3 hl.1 1 q1313 q669 q670 q92 q671 hv_X5_isWord ⟨⟨Nat.le_of_ble_eq_true rfl, Nat.le_of_ble_eq_true rfl⟩, rfl, rfl⟩ (z_recvw K X (pl_glb (k := 3) (by decide)) rfl rfl) rfl rfl (Nat.le_of_ble_eq_true rfl) dX2_propertyNamed_21 ⟨Nat.le_of_ble_eq_true rfl, Nat.le_of_ble_eq_true rfl⟩ rfl (fun H locs X => ?_)
    refine w_zeq (tgt := 29) K dX2_propertyNamed_24 (by decide) (fun c4 => ?_) (fun c4 => ?_)
    · have h0 := if_f c4 h0
      refine lv_aload_n hx hb dX2_propertyNamed_29 rfl (lv_at hl 0 rfl) ?_
      refine g_gram2 K X hg 0 (by decide) rfl q1301 dX2_propertyNamed_30 ?_
      refine z_ldc K hZ 24 (by decide) ⟨rfl, rfl⟩ dX2_propertyNamed_33 ?_
      obtain ⟨x5, ex5, h0⟩ := ob_out h0
      have kx5 := m_X5_isWord l D ca ar ag z n (va_up P r R) G xs 24 (by decide) x5 ex5 H.size
      refine z_callV K hZ X wC_fstx wC_fstx kx5 hl.1 1 q1313 q669 q670 q92 q671 hv_X5_isWord ⟨⟨Nat.le_of_ble_eq_true rfl, Nat.le_of_ble_eq_true rfl⟩, rfl, rfl⟩ (z_recvw K X (pl_glb (k := 3) (by decide)) rfl rfl) rfl rfl (Nat.le_of_ble_eq_true rfl) dX2_propertyNamed_35 ⟨Nat.le_of_ble_eq_true rfl, Nat.le_of_ble_eq_true rfl⟩ rfl (fun H locs X => ?_)
      refine w_zeq (tgt := 43) K dX2_propertyNamed_38 (by decide) (fun c6 => ?_) (fun c6 => ?_)
      · have h0 := if_f c6 h0
        refine lv_aload_n hx hb dX2_propertyNamed_43 rfl (lv_at hl 0 rfl) ?_
        refine g_gram2 K X hg 0 (by decide) rfl q1301 dX2_propertyNamed_44 ?_
        refine z_ldc K hZ 25 (by decide) ⟨rfl, rfl⟩ dX2_propertyNamed_47 ?_
        obtain ⟨x7, ex7, h0⟩ := ob_out h0
        have kx7 := m_X5_isWord l D ca ar ag z n (va_up P r R) G xs 25 (by decide) x7 ex7 H.size
        refine z_callV K hZ X wC_fstx wC_fstx kx7 hl.1 1 q1313 q669 q670 q92 q671 hv_X5_isWord ⟨⟨Nat.le_of_ble_eq_true rfl, Nat.le_of_ble_eq_true rfl⟩, rfl, rfl⟩ (z_recvw K X (pl_glb (k := 3) (by decide)) rfl rfl) rfl rfl (Nat.le_of_ble_eq_true rfl) dX2_propertyNamed_49 ⟨Nat.le_of_ble_eq_true rfl, Nat.le_of_ble_eq_true rfl⟩ rfl (fun H locs X => ?_)
        refine w_zeq (tgt := 57) K dX2_propertyNamed_52 (by decide) (fun c8 => ?_) (fun c8 => ?_)
        · have h0 := if_f c8 h0
          refine lv_aload_n hx hb dX2_propertyNamed_57 rfl (lv_at hl 0 rfl) ?_
          refine g_gram2 K X hg 0 (by decide) rfl q1301 dX2_propertyNamed_58 ?_
          refine z_ldc K hZ 26 (by decide) ⟨rfl, rfl⟩ dX2_propertyNamed_61 ?_
          obtain ⟨x9, ex9, h0⟩ := ob_out h0
          have kx9 := m_X5_isWord l D ca ar ag z n (va_up P r R) G xs 26 (by decide) x9 ex9 H.size
          refine z_callV K hZ X wC_fstx wC_fstx kx9 hl.1 1 q1313 q669 q670 q92 q671 hv_X5_isWord ⟨⟨Nat.le_of_ble_eq_true rfl, Nat.le_of_ble_eq_true rfl⟩, rfl, rfl⟩ (z_recvw K X (pl_glb (k := 3) (by decide)) rfl rfl) rfl rfl (Nat.le_of_ble_eq_true rfl) dX2_propertyNamed_63 ⟨Nat.le_of_ble_eq_true rfl, Nat.le_of_ble_eq_true rfl⟩ rfl (fun H locs X => ?_)
          refine w_zeq (tgt := 71) K dX2_propertyNamed_66 (by decide) (fun c10 => ?_) (fun c10 => ?_)
          · have h0 := if_f c10 h0
            refine lv_aload_n hx hb dX2_propertyNamed_71 rfl (lv_at hl 0 rfl) ?_
            refine g_gram2 K X hg 0 (by decide) rfl q1301 dX2_propertyNamed_72 ?_
            refine z_ldc K hZ 27 (by decide) ⟨rfl, rfl⟩ dX2_propertyNamed_75 ?_
            obtain ⟨x11, ex11, h0⟩ := ob_out h0
            have kx11 := m_X5_isWord l D ca ar ag z n (va_up P r R) G xs 27 (by decide) x11 ex11 H.size
            refine z_callV K hZ X wC_fstx wC_fstx kx11 hl.1 1 q1313 q669 q670 q92 q671 hv_X5_isWord ⟨⟨Nat.le_of_ble_eq_true rfl, Nat.le_of_ble_eq_true rfl⟩, rfl, rfl⟩ (z_recvw K X (pl_glb (k := 3) (by decide)) rfl rfl) rfl rfl (Nat.le_of_ble_eq_true rfl) dX2_propertyNamed_77 ⟨Nat.le_of_ble_eq_true rfl, Nat.le_of_ble_eq_true rfl⟩ rfl (fun H locs X => ?_)
            refine w_zeq (tgt := 85) K dX2_propertyNamed_80 (by decide) (fun c12 => ?_) (fun c12 => ?_)
            · have h0 := if_f c12 h0
              refine lv_aload_n hx hb dX2_propertyNamed_85 rfl (lv_at hl 0 rfl) ?_
              refine g_gram2 K X hg 0 (by decide) rfl q1301 dX2_propertyNamed_86 ?_
              refine z_ldc K hZ 28 (by decide) ⟨rfl, rfl⟩ dX2_propertyNamed_89 ?_
              obtain ⟨x13, ex13, h0⟩ := ob_out h0
              have kx13 := m_X5_isWord l D ca ar ag z n (va_up P r R) G xs 28 (by decide) x13 ex13 H.size
              refine z_callV K hZ X wC_fstx wC_fstx kx13 hl.1 1 q1313 q669 q670 q92 q671 hv_X5_isWord ⟨⟨Nat.le_of_ble_eq_true rfl, Nat.le_of_ble_eq_true rfl⟩, rfl, rfl⟩ (z_recvw K X (pl_glb (k := 3) (by decide)) rfl rfl) rfl rfl (Nat.le_of_ble_eq_true rfl) dX2_propertyNamed_91 ⟨Nat.le_of_ble_eq_true rfl, Nat.le_of_ble_eq_true rfl⟩ rfl (fun H locs X => ?_)
              refine w_zeq (tgt := 100) K dX2_propertyNamed_94 (by decide) (fun c14 => ?_) (fun c14 => ?_)
              · have h0 := if_f c14 h0
                refine lv_aload_n hx hb dX2_propertyNamed_100 rfl (lv_at hl 0 rfl) ?_
                refine g_gram2 K X hg 0 (by decide) rfl q1301 dX2_propertyNamed_101 ?_
                refine z_ldc K hZ 29 (by decide) ⟨rfl, rfl⟩ dX2_propertyNamed_104 ?_
                obtain ⟨x15, ex15, h0⟩ := ob_out h0
                have kx15 := m_X5_isWord l D ca ar ag z n (va_up P r R) G xs 29 (by decide) x15 ex15 H.size
                refine z_callV K hZ X wC_fstx wC_fstx kx15 hl.1 1 q1313 q669 q670 q92 q671 hv_X5_isWord ⟨⟨Nat.le_of_ble_eq_true rfl, Nat.le_of_ble_eq_true rfl⟩, rfl, rfl⟩ (z_recvw K X (pl_glb (k := 3) (by decide)) rfl rfl) rfl rfl (Nat.le_of_ble_eq_true rfl) dX2_propertyNamed_106 ⟨Nat.le_of_ble_eq_true rfl, Nat.le_of_ble_eq_true rfl⟩ rfl (fun H locs X => ?_)
                refine w_zeq (tgt := 115) K dX2_propertyNamed_109 (by decide) (fun c16 => ?_) (fun c16 => ?_)
                · have h0 := if_f c16 h0
                  refine lv_aload_n hx hb dX2_propertyNamed_115 rfl (lv_at hl 0 rfl) ?_
                  refine g_gram2 K X hg 0 (by decide) rfl q1301 dX2_propertyNamed_116 ?_
                  refine z_ldc K hZ 30 (by decide) ⟨rfl, rfl⟩ dX2_propertyNamed_119 ?_
                  obtain ⟨x17, ex17, h0⟩ := ob_out h0
                  have kx17 := m_X5_isWord l D ca ar ag z n (va_up P r R) G xs 30 (by decide) x17 ex17 H.size
                  refine z_callV K hZ X wC_fstx wC_fstx kx17 hl.1 1 q1313 q669 q670 q92 q671 hv_X5_isWord ⟨⟨Nat.le_of_ble_eq_true rfl, Nat.le_of_ble_eq_true rfl⟩, rfl, rfl⟩ (z_recvw K X (pl_glb (k := 3) (by decide)) rfl rfl) rfl rfl (Nat.le_of_ble_eq_true rfl) dX2_propertyNamed_121 ⟨Nat.le_of_ble_eq_true rfl, Nat.le_of_ble_eq_true rfl⟩ rfl (fun H locs X => ?_)
                  refine w_zne (tgt := 135) K dX2_propertyNamed_124 (by decide) (fun c18 => ?_) (fun c18 => ?_)
                  · have h0 := if_t c18 h0
                    refine lv_bipush (v := 12) hx hb dX2_propertyNamed_135 (by decide) ?_
                    have h0 := Option.some.inj h0
                    obtain ⟨q_0, q_1⟩ := Prod.mk.inj h0
                    subst q_0
                    subst q_1
                    subst hQ
                    exact w_iret K hr0 X wC_fstx hsz dX2_propertyNamed_137
                  · have h0 := if_f c18 h0
                    refine lv_aload_n hx hb dX2_propertyNamed_127 rfl (lv_at hl 0 rfl) ?_
                    refine g_gram2 K X hg 0 (by decide) rfl q1301 dX2_propertyNamed_128 ?_
                    refine lv_iconst (v := 1) hx hb dX2_propertyNamed_131 (by decide) ?_
                    obtain ⟨x19, ex19, h0⟩ := lt_out h0
                    obtain ⟨Gv20, eGv20, h0⟩ := lt_out h0
                    have kx19 := m_X5_fail l D ca ar ag (va_up P r R) G xs 1 x19 ex19.symm H.size
                    rw [← eGv20] at kx19
                    refine w_callV0 K X wC_fstx kx19 hl.1 1 q1352 q702 q703 q92 q704 hv_X5_fail ⟨⟨Nat.le_of_ble_eq_true rfl, Nat.le_of_ble_eq_true rfl⟩, rfl, rfl⟩ (pl_glb (k := 3) (by decide)) rfl rfl rfl rfl (Nat.le_of_ble_eq_true rfl) dX2_propertyNamed_132 ⟨Nat.le_of_ble_eq_true rfl, Nat.le_of_ble_eq_true rfl⟩ rfl (fun H locs X => ?_)
                    refine lv_bipush (v := 12) hx hb dX2_propertyNamed_135 (by decide) ?_
                    have h0 := Option.some.inj h0
                    obtain ⟨q_0, q_1⟩ := Prod.mk.inj h0
                    subst q_0
                    subst q_1
                    subst hQ
                    exact w_iret K hr0 X wC_fstx hsz dX2_propertyNamed_137
                · have h0 := if_t c16 h0
                  refine lv_bipush (v := 7) hx hb dX2_propertyNamed_112 (by decide) ?_
                  have h0 := Option.some.inj h0
                  obtain ⟨q_0, q_1⟩ := Prod.mk.inj h0
                  subst q_0
                  subst q_1
                  subst hQ
                  exact w_iret K hr0 X wC_fstx hsz dX2_propertyNamed_114
              · have h0 := if_t c14 h0
                refine lv_bipush (v := 6) hx hb dX2_propertyNamed_97 (by decide) ?_
                have h0 := Option.some.inj h0
                obtain ⟨q_0, q_1⟩ := Prod.mk.inj h0
                subst q_0
                subst q_1
                subst hQ
                exact w_iret K hr0 X wC_fstx hsz dX2_propertyNamed_99
            · have h0 := if_t c12 h0
              refine lv_iconst (v := 4) hx hb dX2_propertyNamed_83 (by decide) ?_
              have h0 := Option.some.inj h0
              obtain ⟨q_0, q_1⟩ := Prod.mk.inj h0
              subst q_0
              subst q_1
              subst hQ
              exact w_iret K hr0 X wC_fstx hsz dX2_propertyNamed_84
          · have h0 := if_t c10 h0
            refine lv_iconst (v := 3) hx hb dX2_propertyNamed_69 (by decide) ?_
            have h0 := Option.some.inj h0
            obtain ⟨q_0, q_1⟩ := Prod.mk.inj h0
            subst q_0
            subst q_1
            subst hQ
            exact w_iret K hr0 X wC_fstx hsz dX2_propertyNamed_70
        · have h0 := if_t c8 h0
          refine lv_iconst (v := 2) hx hb dX2_propertyNamed_55 (by decide) ?_
          have h0 := Option.some.inj h0
          obtain ⟨q_0, q_1⟩ := Prod.mk.inj h0
          subst q_0
          subst q_1
          subst hQ
          exact w_iret K hr0 X wC_fstx hsz dX2_propertyNamed_56
      · have h0 := if_t c6 h0
        refine lv_iconst (v := 1) hx hb dX2_propertyNamed_41 (by decide) ?_
        have h0 := Option.some.inj h0
        obtain ⟨q_0, q_1⟩ := Prod.mk.inj h0
        subst q_0
        subst q_1
        subst hQ
        exact w_iret K hr0 X wC_fstx hsz dX2_propertyNamed_42
    · have h0 := if_t c4 h0
      refine lv_iconst (v := 0) hx hb dX2_propertyNamed_27 (by decide) ?_
      have h0 := Option.some.inj h0
      obtain ⟨q_0, q_1⟩ := Prod.mk.inj h0
      subst q_0
      subst q_1
      subst hQ
      exact w_iret K hr0 X wC_fstx hsz dX2_propertyNamed_28
  · have h0 := if_t c2 h0
    refine lv_bipush (v := 11) hx hb dX2_propertyNamed_12 (by decide) ?_
    have h0 := Option.some.inj h0
    obtain ⟨q_0, q_1⟩ := Prod.mk.inj h0
    subst q_0
    subst q_1
    subst hQ
    exact w_iret K hr0 X wC_fstx hsz dX2_propertyNamed_14
-- X2_operand
def b_X2_operand_44 (n : Nat) (y44_l1 : Int32) (G_44 : GlbS) : Option (Int32 × GlbS) :=
  ob (f_X5_advance n G_44) fun x4 =>
  lt (x4) fun Gv5 =>
  some (y44_l1, Gv5)
def f_X2_operand (n : Nat) (R : RowS) (G : GlbS) : Option (Int32 × GlbS) :=
  lt (G 3 6) fun x1 =>
  if (G 3 5) = 2 then
    if x1 ≤ 999999 then
      b_X2_operand_44 n x1 G
    else
      lt (f_X5_fail G 2) fun x6 =>
      lt (x6) fun Gv7 =>
      b_X2_operand_44 n x1 Gv7
  else
    ob (f_X2_propertyNamed n R G) fun x8 =>
    lt (x8.2) fun Gv9 =>
    lt (x8.1 - 100) fun x10 =>
    b_X2_operand_44 n x10 Gv9
abbrev rm_X2_operand : Room := { frames := 6, cells := 0, slots := 0, locals := 129 }
set_option maxRecDepth 100000 in
set_option maxHeartbeats 4000000 in
theorem m_X2_operand (l : Launch) (D : va_G) (ca : Nat → ClassId) (ar : Nat → Nat → Nat) (ag : Nat → Nat) (z : ZG) (n : Nat) (P : RowsS) (r : Nat) (R : RowS) (G : GlbS) (xs : va_W) (hr : r < 13) (gq gj : Nat) (hg : xs[gj]? = some (gq, .inr (4, [.ref (ag 3), .ref (ar r 0)]))) (res : Int32) (G' : GlbS) (h0 : f_X2_operand n R G = some (res, G')) (sz : Nat) : Met l yX2_operand (ws_ yX2_operand cX2_operand 2 (some .int)) rm_X2_operand (PCz z D ca (wC ar ag ca (va_up P r R) G ++ xs) sz [.ref gq]) (QMw D (wC ar ag ca (va_up P r R) G ++ xs) (wC ar ag ca (va_up P r R) (G') ++ xs) sz (some (.int res))) 0 0 (AL (wC ar ag ca (va_up P r R) G ++ xs) sz) := by
  refine met_z (by decide +kernel) (Nat.le_of_ble_eq_true rfl) (fun p e s m args below meth c K hr0 hZ X hsz ls hl => ?_)
  have K : MC D ca p s m args meth c cX2_operand 2 RX2 := K
  have hx := K.1
  have hb := K.2.1
  have hl : lv_has ls 2 [(0, .ref gq)] := hl
  generalize hQ : MQ below _ args s 0 0 _ = Q
  unfold f_X2_operand at h0
  suffices Z : ∀ (H : Heap) (locs : List Loc) (X : RW D (wC ar ag ca (va_up P r R) G ++ xs) s.heap H locs), W p l e rm_X2_operand s m args below meth c H locs 0 0 Q (F0 m 0 ls []) from Z _ _ X
  intro H locs X
  have J44 : ∀ (y44_l1 : Int32) (G_44 : GlbS) (H : Heap) (locs : List Loc) (X : RW D (wC ar ag ca (va_up P r R) G_44 ++ xs) s.heap H locs) (ls : Array Slot) (hl : lv_has ls 2 [(0, .ref gq), (1, .int y44_l1)]) (h0 : b_X2_operand_44 n y44_l1 G_44 = some (res, G')), W p l e rm_X2_operand s m args below meth c H locs 0 0 Q (F0 m 44 ls []) := by
    intro y44_l1 G_44 H locs X ls hl h0
    unfold b_X2_operand_44 at h0
    refine lv_aload_n hx hb dX2_operand_44 rfl (lv_at hl 0 rfl) ?_
    refine g_gram2 K X hg 0 (by decide) rfl q1301 dX2_operand_45 ?_
    obtain ⟨x4, ex4, h0⟩ := ob_out h0
    obtain ⟨Gv5, eGv5, h0⟩ := lt_out h0
    have kx4 := m_X5_advance l D ca ar ag n (va_up P r R) G_44 xs x4 ex4 H.size
    rw [← eGv5] at kx4
    refine w_callV0 K X wC_fstx kx4 hl.1 0 q1314 q632 q633 q92 q634 hv_X5_advance ⟨⟨Nat.le_of_ble_eq_true rfl, Nat.le_of_ble_eq_true rfl⟩, rfl, rfl⟩ (pl_glb (k := 3) (by decide)) rfl rfl rfl rfl (Nat.le_of_ble_eq_true rfl) dX2_operand_48 ⟨Nat.le_of_ble_eq_true rfl, Nat.le_of_ble_eq_true rfl⟩ rfl (fun H locs X => ?_)
    refine lv_iload_n hx hb dX2_operand_51 rfl (lv_at hl 1 rfl) ?_
    have h0 := Option.some.inj h0
    obtain ⟨q_0, q_1⟩ := Prod.mk.inj h0
    subst q_0
    subst q_1
    subst hQ
    exact w_iret K hr0 X wC_fstx hsz dX2_operand_52
  refine lv_aload_n hx hb dX2_operand_0 rfl (lv_at hl 0 rfl) ?_
  refine g_gram2 K X hg 0 (by decide) rfl q1301 dX2_operand_1 ?_
  refine g_toki K X 6 (by decide) q290 dX2_operand_4 ?_
  obtain ⟨x1, ex1, h0⟩ := lt_out h0
  refine w_int ex1 ?_
  refine lv_istore_n (lv' := [(1, .int x1), (0, .ref gq)]) hx hb dX2_operand_7 rfl hl (by decide) rfl (fun ls hl => ?_)
  refine lv_aload_n hx hb dX2_operand_8 rfl (lv_at hl 1 rfl) ?_
  refine g_gram2 K X hg 0 (by decide) rfl q1301 dX2_operand_9 ?_
  refine g_toki K X 5 (by decide) q288 dX2_operand_12 ?_
  refine lv_iconst (v := 2) hx hb dX2_operand_15 (by decide) ?_
  refine lv_icmp_eq (tgt := 30) hx hb dX2_operand_16 (by decide) (fun c2 => ?_) (fun c2 => ?_)
  · have h0 := if_t c2 h0
    refine lv_iload_n hx hb dX2_operand_30 rfl (lv_at hl 0 rfl) ?_
    refine lv_ldc hx hb K.2.2.2.1 (K.2.2.2.2.1 _ q1353) dX2_operand_31 ?_
    refine lv_icmp_le (tgt := 44) hx hb dX2_operand_33 (by decide) (fun c3 => ?_) (fun c3 => ?_)
    · have h0 := if_t c3 h0
      exact J44 x1 G H locs X ls (lv_sub hl [1, 0] rfl) h0
    · have h0 := if_f c3 h0
      refine lv_aload_n hx hb dX2_operand_36 rfl (lv_at hl 1 rfl) ?_
      refine g_gram2 K X hg 0 (by decide) rfl q1301 dX2_operand_37 ?_
      refine lv_iconst (v := 2) hx hb dX2_operand_40 (by decide) ?_
      obtain ⟨x6, ex6, h0⟩ := lt_out h0
      obtain ⟨Gv7, eGv7, h0⟩ := lt_out h0
      have kx6 := m_X5_fail l D ca ar ag (va_up P r R) G xs 2 x6 ex6.symm H.size
      rw [← eGv7] at kx6
      refine w_callV0 K X wC_fstx kx6 hl.1 1 q1352 q702 q703 q92 q704 hv_X5_fail ⟨⟨Nat.le_of_ble_eq_true rfl, Nat.le_of_ble_eq_true rfl⟩, rfl, rfl⟩ (pl_glb (k := 3) (by decide)) rfl rfl rfl rfl (Nat.le_of_ble_eq_true rfl) dX2_operand_41 ⟨Nat.le_of_ble_eq_true rfl, Nat.le_of_ble_eq_true rfl⟩ rfl (fun H locs X => ?_)
      exact J44 x1 Gv7 H locs X ls (lv_sub hl [1, 0] rfl) h0
  · have h0 := if_f c2 h0
    refine lv_aload_n hx hb dX2_operand_19 rfl (lv_at hl 1 rfl) ?_
    obtain ⟨x8, ex8, h0⟩ := ob_out h0
    obtain ⟨Gv9, eGv9, h0⟩ := lt_out h0
    have kx8 := m_X2_propertyNamed l D ca ar ag z n P r R G xs hr gq gj hg x8.1 x8.2 ex8 H.size
    rw [← eGv9] at kx8
    refine z_callV K hZ X wC_fstx wC_fstx kx8 hl.1 0 q1339 q1341 q17 q112 q1342 hv_X2_propertyNamed ⟨⟨Nat.le_of_ble_eq_true rfl, Nat.le_of_ble_eq_true rfl⟩, rfl, rfl⟩ (z_recvw K X (pl_xs.trans hg) rfl rfl) rfl rfl (Nat.le_of_ble_eq_true rfl) dX2_operand_20 ⟨Nat.le_of_ble_eq_true rfl, Nat.le_of_ble_eq_true rfl⟩ rfl (fun H locs X => ?_)
    refine lv_bipush (v := 100) hx hb dX2_operand_23 (by decide) ?_
    refine lv_isub hx hb dX2_operand_25 ?_
    obtain ⟨x10, ex10, h0⟩ := lt_out h0
    refine w_int ex10 ?_
    refine lv_istore_n (lv' := [(1, .int x10), (0, .ref gq)]) hx hb dX2_operand_26 rfl hl (by decide) rfl (fun ls hl => ?_)
    refine lv_goto (tgt := 44) hx hb dX2_operand_27 (by decide) ?_
    exact J44 x10 Gv9 H locs X ls (lv_sub hl [1, 0] rfl) h0
-- X2_valueFor
def f_X2_valueFor (R : RowS) (G : GlbS) (a1 : Int32) (a2 : Int32) : Int32 :=
  if a2 < 0 then
    lt (f_X3_numberOf R a1 (a2 + 100)) fun x2 =>
    x2
  else
    a2
abbrev rm_X2_valueFor : Room := { frames := 2, cells := 0, slots := 0, locals := 44 }
set_option maxRecDepth 100000 in
set_option maxHeartbeats 4000000 in
theorem m_X2_valueFor (l : Launch) (D : va_G) (ca : Nat → ClassId) (ar : Nat → Nat → Nat) (ag : Nat → Nat) (P : RowsS) (r : Nat) (R : RowS) (G : GlbS) (xs : va_W) (hr : r < 13) (gq gj : Nat) (hg : xs[gj]? = some (gq, .inr (4, [.ref (ag 3), .ref (ar r 0)]))) (a1 : Int32) (a2 : Int32) (res : Int32) (h0 : f_X2_valueFor R G a1 a2 = res) (sz : Nat) : Met l yX2_valueFor (ws_ yX2_valueFor cX2_valueFor 3 (some .int)) rm_X2_valueFor (PCw D ca (wC ar ag ca (va_up P r R) G ++ xs) sz [.ref gq, .int a1, .int a2]) (QMw D (wC ar ag ca (va_up P r R) G ++ xs) (wC ar ag ca (va_up P r R) G ++ xs) sz (some (.int res))) 0 0 (AL (wC ar ag ca (va_up P r R) G ++ xs) sz) := by
  refine met_of (by decide) (Nat.le_of_ble_eq_true rfl) (fun p e s m args below meth c K hr0 X hsz ls hl => ?_)
  have K : MC D ca p s m args meth c cX2_valueFor 3 RX2 := K
  have hx := K.1
  have hb := K.2.1
  have hl : lv_has ls 3 [(0, .ref gq), (1, .int a1), (2, .int a2)] := hl
  generalize hQ : MQ below _ args s 0 0 _ = Q
  unfold f_X2_valueFor at h0
  suffices Z : ∀ (H : Heap) (locs : List Loc) (X : RW D (wC ar ag ca (va_up P r R) G ++ xs) s.heap H locs), W p l e rm_X2_valueFor s m args below meth c H locs 0 0 Q (F0 m 0 ls []) from Z _ _ X
  intro H locs X
  refine lv_iload_n hx hb dX2_valueFor_0 rfl (lv_at hl 2 rfl) ?_
  refine lv_if_lt (tgt := 8) hx hb dX2_valueFor_1 (by decide) (fun c1 => ?_) (fun c1 => ?_)
  · have h0 := if_t c1 h0
    refine lv_aload_n hx hb dX2_valueFor_8 rfl (lv_at hl 0 rfl) ?_
    refine g_gram2 K X hg 1 (by decide) rfl q1302 dX2_valueFor_9 ?_
    refine lv_iload_n hx hb dX2_valueFor_12 rfl (lv_at hl 1 rfl) ?_
    refine lv_iload_n hx hb dX2_valueFor_13 rfl (lv_at hl 2 rfl) ?_
    refine lv_bipush (v := 100) hx hb dX2_valueFor_14 (by decide) ?_
    refine lv_iadd hx hb dX2_valueFor_16 ?_
    obtain ⟨x2, ex2, h0⟩ := lt_out h0
    have kx2 := m_X3_numberOf l D ca ar ag P r R G xs hr a1 (a2 + 100) x2 ex2.symm H.size
    refine w_callV0 K X wC_fstx kx2 hl.1 2 q1359 q893 q894 q88 q895 hv_X3_numberOf ⟨⟨Nat.le_of_ble_eq_true rfl, Nat.le_of_ble_eq_true rfl⟩, rfl, rfl⟩ (pl_rowo hr) rfl rfl rfl rfl (Nat.le_of_ble_eq_true rfl) dX2_valueFor_17 ⟨Nat.le_of_ble_eq_true rfl, Nat.le_of_ble_eq_true rfl⟩ rfl (fun H locs X => ?_)
    subst h0
    subst hQ
    exact w_iret K hr0 X wC_fstx hsz dX2_valueFor_20
  · have h0 := if_f c1 h0
    refine lv_iload_n hx hb dX2_valueFor_4 rfl (lv_at hl 2 rfl) ?_
    refine lv_goto (tgt := 20) hx hb dX2_valueFor_5 (by decide) ?_
    subst h0
    subst hQ
    exact w_iret K hr0 X wC_fstx hsz dX2_valueFor_20
-- X2_comparison
def b_X2_comparison_140  (y140_l5 : Int32) (G_140 : GlbS) : Option (Int32 × GlbS) :=
  some (y140_l5, G_140)
def b_X2_comparison_134  (y134_l5 : Int32) (y134_l6 : Int32) : Option ((Int32 × Int32) ⊕ Int32) :=
  lt (y134_l6 + 1) fun x19 =>
  some (.inl (y134_l5, x19))
def b_X2_comparison_125  (y125_l5 : Int32) (y125_l6 : Int32) : Option ((Int32 × Int32) ⊕ Int32) :=
  lt (y125_l5 ||| ((1 : Int32) <<< (y125_l6 &&& 31))) fun x20 =>
  b_X2_comparison_134 x20 y125_l6
def l_X2_comparison_64 (R : RowS) (y52_l1 : Int32) (y52_l2 : Bool) (y52_l3 : Bool) (Gv10 : GlbS) (x11 : Int32) (z64_5 : Int32) (z64_6 : Int32) : Option ((Int32 × Int32) ⊕ Int32) :=
  if (R.1 0 2) ≤ z64_6 then
    some (.inr z64_5)
  else
    lt (f_X2_valueFor R Gv10 z64_6 y52_l1) fun x13 =>
    lt (f_X2_valueFor R Gv10 z64_6 x11) fun x14 =>
    lt (f_J6_compare_7cf53 x13 x14) fun x15 =>
    if y52_l2 = true then
      if 0 ≤ x15 then
        b_X2_comparison_134 z64_5 z64_6
      else
        b_X2_comparison_125 z64_5 z64_6
    else
      if y52_l3 = true then
        if x15 ≤ 0 then
          b_X2_comparison_134 z64_5 z64_6
        else
          b_X2_comparison_125 z64_5 z64_6
      else
        if x15 = 0 then
          b_X2_comparison_125 z64_5 z64_6
        else
          b_X2_comparison_134 z64_5 z64_6
def b_X2_comparison_52 (n : Nat) (R : RowS) (y52_l1 : Int32) (y52_l2 : Bool) (y52_l3 : Bool) (G_52 : GlbS) : Option (Int32 × GlbS) :=
  ob (f_X2_operand n R G_52) fun x9 =>
  lt (x9.2) fun Gv10 =>
  lt (x9.1) fun x11 =>
  ob (wloop (fun t => l_X2_comparison_64 R y52_l1 y52_l2 y52_l3 Gv10 x11 t.1 t.2) n (0, 0)) (fun t => b_X2_comparison_140 t Gv10)
def b_X2_comparison_33 (n : Nat) (R : RowS) (y33_l1 : Int32) (y33_l2 : Bool) (y33_l3 : Bool) (G_33 : GlbS) : Option (Int32 × GlbS) :=
  ob (f_X5_advance n G_33) fun x7 =>
  lt (x7) fun Gv8 =>
  b_X2_comparison_52 n R y33_l1 y33_l2 y33_l3 Gv8
def f_X2_comparison (n : Nat) (R : RowS) (G : GlbS) : Option (Int32 × GlbS) :=
  ob (f_X2_operand n R G) fun x1 =>
  lt (x1.2) fun Gv2 =>
  lt (x1.1) fun x3 =>
  lt (f_X5_isSign Gv2 60) fun x4 =>
  lt (f_X5_isSign Gv2 62) fun x5 =>
  if x4 = true then
    b_X2_comparison_33 n R x3 x4 x5 Gv2
  else
    if x5 = true then
      b_X2_comparison_33 n R x3 x4 x5 Gv2
    else
      ob (f_X5_takeSign n Gv2 61) fun x24 =>
      lt (x24) fun Gv25 =>
      b_X2_comparison_52 n R x3 x4 x5 Gv25
abbrev rm_X2_comparison : Room := { frames := 7, cells := 0, slots := 0, locals := 150 }
set_option maxRecDepth 100000 in
set_option maxHeartbeats 4000000 in
theorem m_X2_comparison (l : Launch) (D : va_G) (ca : Nat → ClassId) (ar : Nat → Nat → Nat) (ag : Nat → Nat) (z : ZG) (n : Nat) (P : RowsS) (r : Nat) (R : RowS) (G : GlbS) (xs : va_W) (hr : r < 13) (gq gj : Nat) (hg : xs[gj]? = some (gq, .inr (4, [.ref (ag 3), .ref (ar r 0)]))) (res : Int32) (G' : GlbS) (h0 : f_X2_comparison n R G = some (res, G')) (sz : Nat) : Met l yX2_comparison (ws_ yX2_comparison cX2_comparison 8 (some .int)) rm_X2_comparison (PCz z D ca (wC ar ag ca (va_up P r R) G ++ xs) sz [.ref gq]) (QMw D (wC ar ag ca (va_up P r R) G ++ xs) (wC ar ag ca (va_up P r R) (G') ++ xs) sz (some (.int res))) 0 0 (AL (wC ar ag ca (va_up P r R) G ++ xs) sz) := by
  refine met_z (by decide +kernel) (Nat.le_of_ble_eq_true rfl) (fun p e s m args below meth c K hr0 hZ X hsz ls hl => ?_)
  have K : MC D ca p s m args meth c cX2_comparison 8 RX2 := K
  have hx := K.1
  have hb := K.2.1
  have hl : lv_has ls 8 [(0, .ref gq)] := hl
  generalize hQ : MQ below _ args s 0 0 _ = Q
  unfold f_X2_comparison at h0
  suffices Z : ∀ (H : Heap) (locs : List Loc) (X : RW D (wC ar ag ca (va_up P r R) G ++ xs) s.heap H locs), W p l e rm_X2_comparison s m args below meth c H locs 0 0 Q (F0 m 0 ls []) from Z _ _ X
  intro H locs X
  have J140 : ∀ (y140_l5 : Int32) (G_140 : GlbS) (H : Heap) (locs : List Loc) (X : RW D (wC ar ag ca (va_up P r R) G_140 ++ xs) s.heap H locs) (ls : Array Slot) (hl : lv_has ls 8 [(5, .int y140_l5)]) (h0 : b_X2_comparison_140 y140_l5 G_140 = some (res, G')), W p l e rm_X2_comparison s m args below meth c H locs 0 0 Q (F0 m 140 ls []) := by
    intro y140_l5 G_140 H locs X ls hl h0
    unfold b_X2_comparison_140 at h0
    refine lv_iload hx hb dX2_comparison_140 (lv_at hl 0 rfl) ?_
    have h0 := Option.some.inj h0
    obtain ⟨q_0, q_1⟩ := Prod.mk.inj h0
    subst q_0
    subst q_1
    subst hQ
    exact w_iret K hr0 X wC_fstx hsz dX2_comparison_142
  have J52 : ∀ (y52_l1 : Int32) (y52_l2 : Bool) (y52_l3 : Bool) (G_52 : GlbS) (H : Heap) (locs : List Loc) (X : RW D (wC ar ag ca (va_up P r R) G_52 ++ xs) s.heap H locs) (ls : Array Slot) (hl : lv_has ls 8 [(0, .ref gq), (1, .int y52_l1), (2, .int (b2i y52_l2)), (3, .int (b2i y52_l3))]) (h0 : b_X2_comparison_52 n R y52_l1 y52_l2 y52_l3 G_52 = some (res, G')), W p l e rm_X2_comparison s m args below meth c H locs 0 0 Q (F0 m 52 ls []) := by
    intro y52_l1 y52_l2 y52_l3 G_52 H locs X ls hl h0
    unfold b_X2_comparison_52 at h0
    refine lv_aload_n hx hb dX2_comparison_52 rfl (lv_at hl 0 rfl) ?_
    obtain ⟨x9, ex9, h0⟩ := ob_out h0
    obtain ⟨Gv10, eGv10, h0⟩ := lt_out h0
    have kx9 := m_X2_operand l D ca ar ag z n P r R G_52 xs hr gq gj hg x9.1 x9.2 ex9 H.size
    rw [← eGv10] at kx9
    refine z_callV K hZ X wC_fstx wC_fstx kx9 hl.1 0 q1335 q1337 q16 q112 q1338 hv_X2_operand ⟨⟨Nat.le_of_ble_eq_true rfl, Nat.le_of_ble_eq_true rfl⟩, rfl, rfl⟩ (z_recvw K X (pl_xs.trans hg) rfl rfl) rfl rfl (Nat.le_of_ble_eq_true rfl) dX2_comparison_53 ⟨Nat.le_of_ble_eq_true rfl, Nat.le_of_ble_eq_true rfl⟩ rfl (fun H locs X => ?_)
    obtain ⟨x11, ex11, h0⟩ := lt_out h0
    refine w_int ex11 ?_
    refine lv_istore (lv' := [(4, .int x11), (0, .ref gq), (1, .int y52_l1), (2, .int (b2i y52_l2)), (3, .int (b2i y52_l3))]) hx hb dX2_comparison_56 hl (by decide) rfl (fun ls hl => ?_)
    refine lv_iconst (v := 0) hx hb dX2_comparison_58 (by decide) ?_
    refine lv_istore (lv' := [(5, .int 0), (4, .int x11), (0, .ref gq), (1, .int y52_l1), (2, .int (b2i y52_l2)), (3, .int (b2i y52_l3))]) hx hb dX2_comparison_59 hl (by decide) rfl (fun ls hl => ?_)
    refine lv_iconst (v := 0) hx hb dX2_comparison_61 (by decide) ?_
    refine lv_istore (lv' := [(6, .int 0), (5, .int 0), (4, .int x11), (0, .ref gq), (1, .int y52_l1), (2, .int (b2i y52_l2)), (3, .int (b2i y52_l3))]) hx hb dX2_comparison_62 hl (by decide) rfl (fun ls hl => ?_)
    obtain ⟨e_1, he1, h0⟩ := ob_out h0
    have K64 : ∀ (k : Nat) (z64_5 : Int32) (z64_6 : Int32) (H : Heap) (locs : List Loc) (X : RW D (wC ar ag ca (va_up P r R) Gv10 ++ xs) s.heap H locs) (ls : Array Slot) (hl : lv_has ls 8 [(0, .ref gq), (1, .int y52_l1), (2, .int (b2i y52_l2)), (3, .int (b2i y52_l3)), (4, .int x11), (5, .int z64_5), (6, .int z64_6)]) (hw : wloop (fun t => l_X2_comparison_64 R y52_l1 y52_l2 y52_l3 Gv10 x11 t.1 t.2) k (z64_5, z64_6) = some e_1), W p l e rm_X2_comparison s m args below meth c H locs 0 0 Q (F0 m 64 ls []) := by
      intro k
      induction k with
      | zero => intro z64_5 z64_6 H locs X ls hl hw; exact (wloop_0 hw).elim
      | succ k ih1 =>
        intro z64_5 z64_6 H locs X ls hl hw
        obtain ⟨x_1, h1, hx1⟩ := wloop_out hw
        have h1 : l_X2_comparison_64 R y52_l1 y52_l2 y52_l3 Gv10 x11 z64_5 z64_6 = some x_1 := h1
        unfold l_X2_comparison_64 at h1
        have J134 : ∀ (y134_l5 : Int32) (y134_l6 : Int32) (H : Heap) (locs : List Loc) (X : RW D (wC ar ag ca (va_up P r R) Gv10 ++ xs) s.heap H locs) (ls : Array Slot) (hl : lv_has ls 8 [(0, .ref gq), (1, .int y52_l1), (2, .int (b2i y52_l2)), (3, .int (b2i y52_l3)), (4, .int x11), (5, .int y134_l5), (6, .int y134_l6)]) (h1 : b_X2_comparison_134 y134_l5 y134_l6 = some x_1), W p l e rm_X2_comparison s m args below meth c H locs 0 0 Q (F0 m 134 ls []) := by
          intro y134_l5 y134_l6 H locs X ls hl h1
          unfold b_X2_comparison_134 at h1
          obtain ⟨x19, ex19, h1⟩ := lt_out h1
          refine lv_iinc (v := x19) (lv' := [(6, .int x19), (0, .ref gq), (1, .int y52_l1), (2, .int (b2i y52_l2)), (3, .int (b2i y52_l3)), (4, .int x11), (5, .int y134_l5)]) hx hb dX2_comparison_134 hl (k := 6) rfl (by rw [ex19]; rfl) (by decide) rfl (fun ls hl => ?_)
          refine lv_goto (tgt := 64) hx hb dX2_comparison_137 (by decide) ?_
          exact ih1 y134_l5 x19 H locs X ls (lv_sub hl [1, 2, 3, 4, 5, 6, 0] rfl) (wl_l h1 hx1)
        have J125 : ∀ (y125_l5 : Int32) (y125_l6 : Int32) (H : Heap) (locs : List Loc) (X : RW D (wC ar ag ca (va_up P r R) Gv10 ++ xs) s.heap H locs) (ls : Array Slot) (hl : lv_has ls 8 [(0, .ref gq), (1, .int y52_l1), (2, .int (b2i y52_l2)), (3, .int (b2i y52_l3)), (4, .int x11), (5, .int y125_l5), (6, .int y125_l6)]) (h1 : b_X2_comparison_125 y125_l5 y125_l6 = some x_1), W p l e rm_X2_comparison s m args below meth c H locs 0 0 Q (F0 m 125 ls []) := by
          intro y125_l5 y125_l6 H locs X ls hl h1
          unfold b_X2_comparison_125 at h1
          refine lv_iload hx hb dX2_comparison_125 (lv_at hl 5 rfl) ?_
          refine lv_iconst (v := 1) hx hb dX2_comparison_127 (by decide) ?_
          refine lv_iload hx hb dX2_comparison_128 (lv_at hl 6 rfl) ?_
          refine lv_ishl hx hb dX2_comparison_130 ?_
          refine lv_ior hx hb dX2_comparison_131 ?_
          obtain ⟨x20, ex20, h1⟩ := lt_out h1
          refine w_int ex20 ?_
          refine lv_istore (lv' := [(5, .int x20), (0, .ref gq), (1, .int y52_l1), (2, .int (b2i y52_l2)), (3, .int (b2i y52_l3)), (4, .int x11), (6, .int y125_l6)]) hx hb dX2_comparison_132 hl (by decide) rfl (fun ls hl => ?_)
          exact J134 x20 y125_l6 H locs X ls (lv_sub hl [1, 2, 3, 4, 5, 0, 6] rfl) h1
        refine lv_iload hx hb dX2_comparison_64 (lv_at hl 6 rfl) ?_
        refine lv_aload_n hx hb dX2_comparison_66 rfl (lv_at hl 0 rfl) ?_
        refine g_gram2 K X hg 1 (by decide) rfl q1302 dX2_comparison_67 ?_
        refine g_rowi K X hr (upR_1 _) 2 (by decide) q232 dX2_comparison_70 ?_
        refine lv_icmp_ge (tgt := 140) hx hb dX2_comparison_73 (by decide) (fun c12 => ?_) (fun c12 => ?_)
        · have h1 := if_t c12 h1
          have q1 := wl_r h1 hx1
          exact J140 z64_5 Gv10 H locs X ls (lv_sub hl [5] rfl) (by rw [q1] at h0; exact h0)
        · have h1 := if_f c12 h1
          refine lv_aload_n hx hb dX2_comparison_76 rfl (lv_at hl 0 rfl) ?_
          refine lv_iload hx hb dX2_comparison_77 (lv_at hl 6 rfl) ?_
          refine lv_iload_n hx hb dX2_comparison_79 rfl (lv_at hl 1 rfl) ?_
          obtain ⟨x13, ex13, h1⟩ := lt_out h1
          have kx13 := m_X2_valueFor l D ca ar ag P r R Gv10 xs hr gq gj hg z64_6 y52_l1 x13 ex13.symm H.size
          refine w_callV0 K X wC_fstx kx13 hl.1 2 q1355 q1357 q18 q112 q1358 hv_X2_valueFor ⟨⟨Nat.le_of_ble_eq_true rfl, Nat.le_of_ble_eq_true rfl⟩, rfl, rfl⟩ (pl_xs.trans hg) rfl rfl rfl rfl (Nat.le_of_ble_eq_true rfl) dX2_comparison_80 ⟨Nat.le_of_ble_eq_true rfl, Nat.le_of_ble_eq_true rfl⟩ rfl (fun H locs X => ?_)
          refine lv_aload_n hx hb dX2_comparison_83 rfl (lv_at hl 0 rfl) ?_
          refine lv_iload hx hb dX2_comparison_84 (lv_at hl 6 rfl) ?_
          refine lv_iload hx hb dX2_comparison_86 (lv_at hl 4 rfl) ?_
          obtain ⟨x14, ex14, h1⟩ := lt_out h1
          have kx14 := m_X2_valueFor l D ca ar ag P r R Gv10 xs hr gq gj hg z64_6 x11 x14 ex14.symm H.size
          refine w_callV0 K X wC_fstx kx14 hl.1 2 q1355 q1357 q18 q112 q1358 hv_X2_valueFor ⟨⟨Nat.le_of_ble_eq_true rfl, Nat.le_of_ble_eq_true rfl⟩, rfl, rfl⟩ (pl_xs.trans hg) rfl rfl rfl rfl (Nat.le_of_ble_eq_true rfl) dX2_comparison_88 ⟨Nat.le_of_ble_eq_true rfl, Nat.le_of_ble_eq_true rfl⟩ rfl (fun H locs X => ?_)
          obtain ⟨x15, ex15, h1⟩ := lt_out h1
          have kx15 := m_J6_compare_7cf53 l D ca (wC ar ag ca (va_up P r R) Gv10 ++ xs) x13 x14 x15 ex15.symm H.size
          refine w_callS0 K X wC_fstx kx15 hl.1 2 q1360 q1361 q111 q1362 hs_J6_compare_7cf53 ⟨⟨Nat.le_of_ble_eq_true rfl, Nat.le_of_ble_eq_true rfl⟩, rfl, rfl⟩ rfl rfl (Nat.le_of_ble_eq_true rfl) dX2_comparison_91 ⟨Nat.le_of_ble_eq_true rfl, Nat.le_of_ble_eq_true rfl⟩ rfl (fun H locs X => ?_)
          refine lv_istore (lv' := [(7, .int x15), (0, .ref gq), (1, .int y52_l1), (2, .int (b2i y52_l2)), (3, .int (b2i y52_l3)), (4, .int x11), (5, .int z64_5), (6, .int z64_6)]) hx hb dX2_comparison_94 hl (by decide) rfl (fun ls hl => ?_)
          refine lv_iload_n hx hb dX2_comparison_96 rfl (lv_at hl 3 rfl) ?_
          refine w_zeq (tgt := 108) K dX2_comparison_97 (by decide) (fun c16 => ?_) (fun c16 => ?_)
          · have h1 := if_f c16 h1
            refine lv_iload_n hx hb dX2_comparison_108 rfl (lv_at hl 4 rfl) ?_
            refine w_zeq (tgt := 120) K dX2_comparison_109 (by decide) (fun c17 => ?_) (fun c17 => ?_)
            · have h1 := if_f c17 h1
              refine lv_iload hx hb dX2_comparison_120 (lv_at hl 0 rfl) ?_
              refine lv_if_ne (tgt := 134) hx hb dX2_comparison_122 (by decide) (fun c18 => ?_) (fun c18 => ?_)
              · have h1 := if_f c18 h1
                exact J134 z64_5 z64_6 H locs X ls (lv_sub hl [1, 2, 3, 4, 5, 6, 7] rfl) h1
              · have h1 := if_t c18 h1
                exact J125 z64_5 z64_6 H locs X ls (lv_sub hl [1, 2, 3, 4, 5, 6, 7] rfl) h1
            · have h1 := if_t c17 h1
              refine lv_iload hx hb dX2_comparison_112 (lv_at hl 0 rfl) ?_
              refine lv_if_le (tgt := 134) hx hb dX2_comparison_114 (by decide) (fun c21 => ?_) (fun c21 => ?_)
              · have h1 := if_t c21 h1
                exact J134 z64_5 z64_6 H locs X ls (lv_sub hl [1, 2, 3, 4, 5, 6, 7] rfl) h1
              · have h1 := if_f c21 h1
                refine lv_goto (tgt := 125) hx hb dX2_comparison_117 (by decide) ?_
                exact J125 z64_5 z64_6 H locs X ls (lv_sub hl [1, 2, 3, 4, 5, 6, 7] rfl) h1
          · have h1 := if_t c16 h1
            refine lv_iload hx hb dX2_comparison_100 (lv_at hl 0 rfl) ?_
            refine lv_if_ge (tgt := 134) hx hb dX2_comparison_102 (by decide) (fun c22 => ?_) (fun c22 => ?_)
            · have h1 := if_t c22 h1
              exact J134 z64_5 z64_6 H locs X ls (lv_sub hl [1, 2, 3, 4, 5, 6, 7] rfl) h1
            · have h1 := if_f c22 h1
              refine lv_goto (tgt := 125) hx hb dX2_comparison_105 (by decide) ?_
              exact J125 z64_5 z64_6 H locs X ls (lv_sub hl [1, 2, 3, 4, 5, 6, 7] rfl) h1
    exact K64 n 0 0 H locs X ls (lv_sub hl [3, 4, 5, 6, 2, 1, 0] rfl) he1
  have J33 : ∀ (y33_l1 : Int32) (y33_l2 : Bool) (y33_l3 : Bool) (G_33 : GlbS) (H : Heap) (locs : List Loc) (X : RW D (wC ar ag ca (va_up P r R) G_33 ++ xs) s.heap H locs) (ls : Array Slot) (hl : lv_has ls 8 [(0, .ref gq), (1, .int y33_l1), (2, .int (b2i y33_l2)), (3, .int (b2i y33_l3))]) (h0 : b_X2_comparison_33 n R y33_l1 y33_l2 y33_l3 G_33 = some (res, G')), W p l e rm_X2_comparison s m args below meth c H locs 0 0 Q (F0 m 33 ls []) := by
    intro y33_l1 y33_l2 y33_l3 G_33 H locs X ls hl h0
    unfold b_X2_comparison_33 at h0
    refine lv_aload_n hx hb dX2_comparison_33 rfl (lv_at hl 0 rfl) ?_
    refine g_gram2 K X hg 0 (by decide) rfl q1301 dX2_comparison_34 ?_
    obtain ⟨x7, ex7, h0⟩ := ob_out h0
    obtain ⟨Gv8, eGv8, h0⟩ := lt_out h0
    have kx7 := m_X5_advance l D ca ar ag n (va_up P r R) G_33 xs x7 ex7 H.size
    rw [← eGv8] at kx7
    refine w_callV0 K X wC_fstx kx7 hl.1 0 q1314 q632 q633 q92 q634 hv_X5_advance ⟨⟨Nat.le_of_ble_eq_true rfl, Nat.le_of_ble_eq_true rfl⟩, rfl, rfl⟩ (pl_glb (k := 3) (by decide)) rfl rfl rfl rfl (Nat.le_of_ble_eq_true rfl) dX2_comparison_37 ⟨Nat.le_of_ble_eq_true rfl, Nat.le_of_ble_eq_true rfl⟩ rfl (fun H locs X => ?_)
    refine lv_goto (tgt := 52) hx hb dX2_comparison_40 (by decide) ?_
    exact J52 y33_l1 y33_l2 y33_l3 Gv8 H locs X ls (lv_sub hl [0, 1, 2, 3] rfl) h0
  refine lv_aload_n hx hb dX2_comparison_0 rfl (lv_at hl 0 rfl) ?_
  obtain ⟨x1, ex1, h0⟩ := ob_out h0
  obtain ⟨Gv2, eGv2, h0⟩ := lt_out h0
  have kx1 := m_X2_operand l D ca ar ag z n P r R G xs hr gq gj hg x1.1 x1.2 ex1 H.size
  rw [← eGv2] at kx1
  refine z_callV K hZ X wC_fstx wC_fstx kx1 hl.1 0 q1335 q1337 q16 q112 q1338 hv_X2_operand ⟨⟨Nat.le_of_ble_eq_true rfl, Nat.le_of_ble_eq_true rfl⟩, rfl, rfl⟩ (z_recvw K X (pl_xs.trans hg) rfl rfl) rfl rfl (Nat.le_of_ble_eq_true rfl) dX2_comparison_1 ⟨Nat.le_of_ble_eq_true rfl, Nat.le_of_ble_eq_true rfl⟩ rfl (fun H locs X => ?_)
  obtain ⟨x3, ex3, h0⟩ := lt_out h0
  refine w_int ex3 ?_
  refine lv_istore_n (lv' := [(1, .int x3), (0, .ref gq)]) hx hb dX2_comparison_4 rfl hl (by decide) rfl (fun ls hl => ?_)
  refine lv_aload_n hx hb dX2_comparison_5 rfl (lv_at hl 1 rfl) ?_
  refine g_gram2 K X hg 0 (by decide) rfl q1301 dX2_comparison_6 ?_
  refine lv_bipush (v := 60) hx hb dX2_comparison_9 (by decide) ?_
  obtain ⟨x4, ex4, h0⟩ := lt_out h0
  have kx4 := m_X5_isSign l D ca ar ag (va_up P r R) Gv2 xs 60 x4 ex4.symm H.size
  refine w_callV0 K X wC_fstx kx4 hl.1 1 q1330 q716 q717 q92 q718 hv_X5_isSign ⟨⟨Nat.le_of_ble_eq_true rfl, Nat.le_of_ble_eq_true rfl⟩, rfl, rfl⟩ (pl_glb (k := 3) (by decide)) rfl rfl rfl rfl (Nat.le_of_ble_eq_true rfl) dX2_comparison_11 ⟨Nat.le_of_ble_eq_true rfl, Nat.le_of_ble_eq_true rfl⟩ rfl (fun H locs X => ?_)
  refine lv_istore_n (lv' := [(2, .int (b2i x4)), (1, .int x3), (0, .ref gq)]) hx hb dX2_comparison_14 rfl hl (by decide) rfl (fun ls hl => ?_)
  refine lv_aload_n hx hb dX2_comparison_15 rfl (lv_at hl 2 rfl) ?_
  refine g_gram2 K X hg 0 (by decide) rfl q1301 dX2_comparison_16 ?_
  refine lv_bipush (v := 62) hx hb dX2_comparison_19 (by decide) ?_
  obtain ⟨x5, ex5, h0⟩ := lt_out h0
  have kx5 := m_X5_isSign l D ca ar ag (va_up P r R) Gv2 xs 62 x5 ex5.symm H.size
  refine w_callV0 K X wC_fstx kx5 hl.1 1 q1330 q716 q717 q92 q718 hv_X5_isSign ⟨⟨Nat.le_of_ble_eq_true rfl, Nat.le_of_ble_eq_true rfl⟩, rfl, rfl⟩ (pl_glb (k := 3) (by decide)) rfl rfl rfl rfl (Nat.le_of_ble_eq_true rfl) dX2_comparison_21 ⟨Nat.le_of_ble_eq_true rfl, Nat.le_of_ble_eq_true rfl⟩ rfl (fun H locs X => ?_)
  refine lv_istore_n (lv' := [(3, .int (b2i x5)), (2, .int (b2i x4)), (1, .int x3), (0, .ref gq)]) hx hb dX2_comparison_24 rfl hl (by decide) rfl (fun ls hl => ?_)
  refine lv_iload_n hx hb dX2_comparison_25 rfl (lv_at hl 1 rfl) ?_
  refine w_zne (tgt := 33) K dX2_comparison_26 (by decide) (fun c6 => ?_) (fun c6 => ?_)
  · have h0 := if_t c6 h0
    exact J33 x3 x4 x5 Gv2 H locs X ls (lv_sub hl [3, 2, 1, 0] rfl) h0
  · have h0 := if_f c6 h0
    refine lv_iload_n hx hb dX2_comparison_29 rfl (lv_at hl 0 rfl) ?_
    refine w_zeq (tgt := 43) K dX2_comparison_30 (by decide) (fun c23 => ?_) (fun c23 => ?_)
    · have h0 := if_f c23 h0
      refine lv_aload_n hx hb dX2_comparison_43 rfl (lv_at hl 3 rfl) ?_
      refine g_gram2 K X hg 0 (by decide) rfl q1301 dX2_comparison_44 ?_
      refine lv_bipush (v := 61) hx hb dX2_comparison_47 (by decide) ?_
      obtain ⟨x24, ex24, h0⟩ := ob_out h0
      obtain ⟨Gv25, eGv25, h0⟩ := lt_out h0
      have kx24 := m_X5_takeSign l D ca ar ag n (va_up P r R) Gv2 xs 61 x24 ex24 H.size
      rw [← eGv25] at kx24
      refine w_callV0 K X wC_fstx kx24 hl.1 1 q1354 q712 q713 q92 q714 hv_X5_takeSign ⟨⟨Nat.le_of_ble_eq_true rfl, Nat.le_of_ble_eq_true rfl⟩, rfl, rfl⟩ (pl_glb (k := 3) (by decide)) rfl rfl rfl rfl (Nat.le_of_ble_eq_true rfl) dX2_comparison_49 ⟨Nat.le_of_ble_eq_true rfl, Nat.le_of_ble_eq_true rfl⟩ rfl (fun H locs X => ?_)
      exact J52 x3 x4 x5 Gv25 H locs X ls (lv_sub hl [3, 2, 1, 0] rfl) h0
    · have h0 := if_t c23 h0
      exact J33 x3 x4 x5 Gv2 H locs X ls (lv_sub hl [3, 2, 1, 0] rfl) h0
-- X2_factor
def b_X2_factor_31 (n : Nat) (ff : RowS → GlbS → Int32 → Option (Int32 × GlbS)) (R : RowS) (a1 : Int32) (y31_l2 : Bool) (G_31 : GlbS) : Option (Int32 × GlbS) :=
  if a1 < 6 then
    ob (f_X5_advance n G_31) fun x4 =>
    lt (x4) fun Gv5 =>
    if y31_l2 = true then
      ob (ff R Gv5 (a1 + 1)) fun x12 =>
      lt (x12.2) fun Gv13 =>
      some (((x12.1 ^^^ (-1)) &&& (((1 : Int32) <<< ((R.1 0 2) &&& 31)) - 1)), Gv13)
    else
      ob (f_X2_test n ff R Gv5 (a1 + 1)) fun x7 =>
      lt (x7.2) fun Gv8 =>
      lt (x7.1) fun x9 =>
      ob (f_X5_takeSign n Gv8 41) fun x10 =>
      lt (x10) fun Gv11 =>
      some (x9, Gv11)
  else
    lt (f_X5_fail G_31 3) fun x14 =>
    lt (x14) fun Gv15 =>
    some (0, Gv15)
def fb_X2_factor (n : Nat) (ff : RowS → GlbS → Int32 → Option (Int32 × GlbS)) (R : RowS) (G : GlbS) (a1 : Int32) : Option (Int32 × GlbS) :=
  ob (f_X5_isWord n G 21) fun x1 =>
  if x1 = true then
    b_X2_factor_31 n ff R a1 x1 G
  else
    lt (f_X5_isSign G 40) fun x16 =>
    if x16 = true then
      b_X2_factor_31 n ff R a1 x1 G
    else
      ob (f_X2_comparison n R G) fun x18 =>
      lt (x18.2) fun Gv19 =>
      some (x18.1, Gv19)
set_option maxRecDepth 100000 in
set_option maxHeartbeats 4000000 in
theorem m_X2_factor (l : Launch) (D : va_G) (ca : Nat → ClassId) (ar : Nat → Nat → Nat) (ag : Nat → Nat) (z : ZG) (n : Nat) (P : RowsS) (r : Nat) (R : RowS) (G : GlbS) (xs : va_W) (hr : r < 13) (gq gj : Nat) (hg : xs[gj]? = some (gq, .inr (4, [.ref (ag 3), .ref (ar r 0)]))) (a1 : Int32) (ff : RowS → GlbS → Int32 → Option (Int32 × GlbS)) (kr : Nat) (hF : ∀ (R : RowS) (G : GlbS) (a1 res : Int32) (G' : GlbS), ff R G a1 = some (res, G') → ∀ sz : Nat, Met l yX2_factor (ws_ yX2_factor cX2_factor 4 (some .int)) (rm_X2_factor kr) (PCz z D ca (wC ar ag ca (va_up P r R) G ++ xs) sz [.ref gq, .int a1]) (QMw D (wC ar ag ca (va_up P r R) G ++ xs) (wC ar ag ca (va_up P r R) G' ++ xs) sz (some (.int res))) 0 0 (AL (wC ar ag ca (va_up P r R) G ++ xs) sz)) (res : Int32) (G' : GlbS) (h0 : fb_X2_factor n ff R G a1 = some (res, G')) (sz : Nat) : Met l yX2_factor (ws_ yX2_factor cX2_factor 4 (some .int)) (rm_X2_factor (kr + 1)) (PCz z D ca (wC ar ag ca (va_up P r R) G ++ xs) sz [.ref gq, .int a1]) (QMw D (wC ar ag ca (va_up P r R) G ++ xs) (wC ar ag ca (va_up P r R) (G') ++ xs) sz (some (.int res))) 0 0 (AL (wC ar ag ca (va_up P r R) G ++ xs) sz) := by
  refine met_z (by decide +kernel) (Nat.le_of_ble_eq_true rfl) (fun p e s m args below meth c K hr0 hZ X hsz ls hl => ?_)
  have K : MC D ca p s m args meth c cX2_factor 4 RX2 := K
  have hx := K.1
  have hb := K.2.1
  have hl : lv_has ls 4 [(0, .ref gq), (1, .int a1)] := hl
  generalize hQ : MQ below _ args s 0 0 _ = Q
  unfold fb_X2_factor at h0
  suffices Z : ∀ (H : Heap) (locs : List Loc) (X : RW D (wC ar ag ca (va_up P r R) G ++ xs) s.heap H locs), W p l e (rm_X2_factor (kr + 1)) s m args below meth c H locs 0 0 Q (F0 m 0 ls []) from Z _ _ X
  intro H locs X
  have J31 : ∀ (y31_l2 : Bool) (G_31 : GlbS) (H : Heap) (locs : List Loc) (X : RW D (wC ar ag ca (va_up P r R) G_31 ++ xs) s.heap H locs) (ls : Array Slot) (hl : lv_has ls 4 [(0, .ref gq), (1, .int a1), (2, .int (b2i y31_l2))]) (h0 : b_X2_factor_31 n ff R a1 y31_l2 G_31 = some (res, G')), W p l e (rm_X2_factor (kr + 1)) s m args below meth c H locs 0 0 Q (F0 m 31 ls []) := by
    intro y31_l2 G_31 H locs X ls hl h0
    unfold b_X2_factor_31 at h0
    refine lv_iload_n hx hb dX2_factor_31 rfl (lv_at hl 1 rfl) ?_
    refine lv_bipush (v := 6) hx hb dX2_factor_32 (by decide) ?_
    refine lv_icmp_lt (tgt := 47) hx hb dX2_factor_34 (by decide) (fun c3 => ?_) (fun c3 => ?_)
    · have h0 := if_t c3 h0
      refine lv_aload_n hx hb dX2_factor_47 rfl (lv_at hl 0 rfl) ?_
      refine g_gram2 K X hg 0 (by decide) rfl q1301 dX2_factor_48 ?_
      obtain ⟨x4, ex4, h0⟩ := ob_out h0
      obtain ⟨Gv5, eGv5, h0⟩ := lt_out h0
      have kx4 := m_X5_advance l D ca ar ag n (va_up P r R) G_31 xs x4 ex4 H.size
      rw [← eGv5] at kx4
      refine w_callV0 K X wC_fstx kx4 hl.1 0 q1314 q632 q633 q92 q634 hv_X5_advance ⟨⟨(by dsimp only [rm_X2_factor, rm_X2_conjunction, rm_X2_test, rm_X5_advance]; omega), (by dsimp only [rm_X2_factor, rm_X2_conjunction, rm_X2_test, rm_X5_advance]; omega)⟩, rfl, rfl⟩ (pl_glb (k := 3) (by decide)) rfl rfl rfl rfl (Nat.le_of_ble_eq_true rfl) dX2_factor_51 ⟨Nat.le_of_ble_eq_true rfl, Nat.le_of_ble_eq_true rfl⟩ rfl (fun H locs X => ?_)
      refine lv_iload_n hx hb dX2_factor_54 rfl (lv_at hl 2 rfl) ?_
      refine w_zeq (tgt := 80) K dX2_factor_55 (by decide) (fun c6 => ?_) (fun c6 => ?_)
      · have h0 := if_f c6 h0
        refine lv_aload_n hx hb dX2_factor_80 rfl (lv_at hl 0 rfl) ?_
        refine lv_iload_n hx hb dX2_factor_81 rfl (lv_at hl 1 rfl) ?_
        refine lv_iconst (v := 1) hx hb dX2_factor_82 (by decide) ?_
        refine lv_iadd hx hb dX2_factor_83 ?_
        obtain ⟨x7, ex7, h0⟩ := ob_out h0
        obtain ⟨Gv8, eGv8, h0⟩ := lt_out h0
        have kx7 := m_X2_test l D ca ar ag z n P r R Gv5 xs hr gq gj hg (a1 + 1) ff kr hF x7.1 x7.2 ex7 H.size
        rw [← eGv8] at kx7
        refine z_callV K hZ X wC_fstx wC_fstx kx7 hl.1 1 q1363 q1319 q12 q112 q1320 hv_X2_test ⟨⟨(by dsimp only [rm_X2_factor, rm_X2_conjunction, rm_X2_test, rm_X2_test]; omega), (by dsimp only [rm_X2_factor, rm_X2_conjunction, rm_X2_test, rm_X2_test]; omega)⟩, rfl, rfl⟩ (z_recvw K X (pl_xs.trans hg) rfl rfl) rfl rfl (Nat.le_of_ble_eq_true rfl) dX2_factor_84 ⟨Nat.le_of_ble_eq_true rfl, Nat.le_of_ble_eq_true rfl⟩ rfl (fun H locs X => ?_)
        obtain ⟨x9, ex9, h0⟩ := lt_out h0
        refine w_int ex9 ?_
        refine lv_istore_n (lv' := [(3, .int x9), (0, .ref gq), (1, .int a1), (2, .int (b2i y31_l2))]) hx hb dX2_factor_87 rfl hl (by decide) rfl (fun ls hl => ?_)
        refine lv_aload_n hx hb dX2_factor_88 rfl (lv_at hl 1 rfl) ?_
        refine g_gram2 K X hg 0 (by decide) rfl q1301 dX2_factor_89 ?_
        refine lv_bipush (v := 41) hx hb dX2_factor_92 (by decide) ?_
        obtain ⟨x10, ex10, h0⟩ := ob_out h0
        obtain ⟨Gv11, eGv11, h0⟩ := lt_out h0
        have kx10 := m_X5_takeSign l D ca ar ag n (va_up P r R) Gv8 xs 41 x10 ex10 H.size
        rw [← eGv11] at kx10
        refine w_callV0 K X wC_fstx kx10 hl.1 1 q1354 q712 q713 q92 q714 hv_X5_takeSign ⟨⟨(by dsimp only [rm_X2_factor, rm_X2_conjunction, rm_X2_test, rm_X5_takeSign]; omega), (by dsimp only [rm_X2_factor, rm_X2_conjunction, rm_X2_test, rm_X5_takeSign]; omega)⟩, rfl, rfl⟩ (pl_glb (k := 3) (by decide)) rfl rfl rfl rfl (Nat.le_of_ble_eq_true rfl) dX2_factor_94 ⟨Nat.le_of_ble_eq_true rfl, Nat.le_of_ble_eq_true rfl⟩ rfl (fun H locs X => ?_)
        refine lv_iload_n hx hb dX2_factor_97 rfl (lv_at hl 0 rfl) ?_
        have h0 := Option.some.inj h0
        obtain ⟨q_0, q_1⟩ := Prod.mk.inj h0
        subst q_0
        subst q_1
        subst hQ
        exact w_iret K hr0 X wC_fstx hsz dX2_factor_98
      · have h0 := if_t c6 h0
        refine lv_aload_n hx hb dX2_factor_58 rfl (lv_at hl 0 rfl) ?_
        refine lv_iload_n hx hb dX2_factor_59 rfl (lv_at hl 1 rfl) ?_
        refine lv_iconst (v := 1) hx hb dX2_factor_60 (by decide) ?_
        refine lv_iadd hx hb dX2_factor_61 ?_
        obtain ⟨x12, ex12, h0⟩ := ob_out h0
        obtain ⟨Gv13, eGv13, h0⟩ := lt_out h0
        have kx12 := hF R Gv5 (a1 + 1) x12.1 x12.2 ex12 H.size
        rw [← eGv13] at kx12
        refine z_callV K hZ X wC_fstx wC_fstx kx12 hl.1 1 q1325 q1327 q14 q112 q1328 hv_X2_factor ⟨⟨(by dsimp only [rm_X2_factor, rm_X2_conjunction, rm_X2_test, rm_X2_factor]; omega), (by dsimp only [rm_X2_factor, rm_X2_conjunction, rm_X2_test, rm_X2_factor]; omega)⟩, rfl, rfl⟩ (z_recvw K X (pl_xs.trans hg) rfl rfl) rfl rfl (Nat.le_of_ble_eq_true rfl) dX2_factor_62 ⟨Nat.le_of_ble_eq_true rfl, Nat.le_of_ble_eq_true rfl⟩ rfl (fun H locs X => ?_)
        refine lv_iconst (v := (-1)) hx hb dX2_factor_65 (by decide) ?_
        refine lv_ixor hx hb dX2_factor_66 ?_
        refine lv_iconst (v := 1) hx hb dX2_factor_67 (by decide) ?_
        refine lv_aload_n hx hb dX2_factor_68 rfl (lv_at hl 0 rfl) ?_
        refine g_gram2 K X hg 1 (by decide) rfl q1302 dX2_factor_69 ?_
        refine g_rowi K X hr (upR_1 _) 2 (by decide) q232 dX2_factor_72 ?_
        refine lv_ishl hx hb dX2_factor_75 ?_
        refine lv_iconst (v := 1) hx hb dX2_factor_76 (by decide) ?_
        refine lv_isub hx hb dX2_factor_77 ?_
        refine lv_iand hx hb dX2_factor_78 ?_
        have h0 := Option.some.inj h0
        obtain ⟨q_0, q_1⟩ := Prod.mk.inj h0
        subst q_0
        subst q_1
        subst hQ
        exact w_iret K hr0 X wC_fstx hsz dX2_factor_79
    · have h0 := if_f c3 h0
      refine lv_aload_n hx hb dX2_factor_37 rfl (lv_at hl 0 rfl) ?_
      refine g_gram2 K X hg 0 (by decide) rfl q1301 dX2_factor_38 ?_
      refine lv_iconst (v := 3) hx hb dX2_factor_41 (by decide) ?_
      obtain ⟨x14, ex14, h0⟩ := lt_out h0
      obtain ⟨Gv15, eGv15, h0⟩ := lt_out h0
      have kx14 := m_X5_fail l D ca ar ag (va_up P r R) G_31 xs 3 x14 ex14.symm H.size
      rw [← eGv15] at kx14
      refine w_callV0 K X wC_fstx kx14 hl.1 1 q1352 q702 q703 q92 q704 hv_X5_fail ⟨⟨(by dsimp only [rm_X2_factor, rm_X2_conjunction, rm_X2_test, rm_X5_fail]; omega), (by dsimp only [rm_X2_factor, rm_X2_conjunction, rm_X2_test, rm_X5_fail]; omega)⟩, rfl, rfl⟩ (pl_glb (k := 3) (by decide)) rfl rfl rfl rfl (Nat.le_of_ble_eq_true rfl) dX2_factor_42 ⟨Nat.le_of_ble_eq_true rfl, Nat.le_of_ble_eq_true rfl⟩ rfl (fun H locs X => ?_)
      refine lv_iconst (v := 0) hx hb dX2_factor_45 (by decide) ?_
      have h0 := Option.some.inj h0
      obtain ⟨q_0, q_1⟩ := Prod.mk.inj h0
      subst q_0
      subst q_1
      subst hQ
      exact w_iret K hr0 X wC_fstx hsz dX2_factor_46
  refine lv_aload_n hx hb dX2_factor_0 rfl (lv_at hl 0 rfl) ?_
  refine g_gram2 K X hg 0 (by decide) rfl q1301 dX2_factor_1 ?_
  refine z_ldc K hZ 21 (by decide) ⟨rfl, rfl⟩ dX2_factor_4 ?_
  obtain ⟨x1, ex1, h0⟩ := ob_out h0
  have kx1 := m_X5_isWord l D ca ar ag z n (va_up P r R) G xs 21 (by decide) x1 ex1 H.size
  refine z_callV K hZ X wC_fstx wC_fstx kx1 hl.1 1 q1313 q669 q670 q92 q671 hv_X5_isWord ⟨⟨(by dsimp only [rm_X2_factor, rm_X2_conjunction, rm_X2_test, rm_X5_isWord]; omega), (by dsimp only [rm_X2_factor, rm_X2_conjunction, rm_X2_test, rm_X5_isWord]; omega)⟩, rfl, rfl⟩ (z_recvw K X (pl_glb (k := 3) (by decide)) rfl rfl) rfl rfl (Nat.le_of_ble_eq_true rfl) dX2_factor_6 ⟨Nat.le_of_ble_eq_true rfl, Nat.le_of_ble_eq_true rfl⟩ rfl (fun H locs X => ?_)
  refine lv_istore_n (lv' := [(2, .int (b2i x1)), (0, .ref gq), (1, .int a1)]) hx hb dX2_factor_9 rfl hl (by decide) rfl (fun ls hl => ?_)
  refine lv_iload_n hx hb dX2_factor_10 rfl (lv_at hl 0 rfl) ?_
  refine w_zne (tgt := 31) K dX2_factor_11 (by decide) (fun c2 => ?_) (fun c2 => ?_)
  · have h0 := if_t c2 h0
    exact J31 x1 G H locs X ls (lv_sub hl [1, 2, 0] rfl) h0
  · have h0 := if_f c2 h0
    refine lv_aload_n hx hb dX2_factor_14 rfl (lv_at hl 1 rfl) ?_
    refine g_gram2 K X hg 0 (by decide) rfl q1301 dX2_factor_15 ?_
    refine lv_bipush (v := 40) hx hb dX2_factor_18 (by decide) ?_
    obtain ⟨x16, ex16, h0⟩ := lt_out h0
    have kx16 := m_X5_isSign l D ca ar ag (va_up P r R) G xs 40 x16 ex16.symm H.size
    refine w_callV0 K X wC_fstx kx16 hl.1 1 q1330 q716 q717 q92 q718 hv_X5_isSign ⟨⟨(by dsimp only [rm_X2_factor, rm_X2_conjunction, rm_X2_test, rm_X5_isSign]; omega), (by dsimp only [rm_X2_factor, rm_X2_conjunction, rm_X2_test, rm_X5_isSign]; omega)⟩, rfl, rfl⟩ (pl_glb (k := 3) (by decide)) rfl rfl rfl rfl (Nat.le_of_ble_eq_true rfl) dX2_factor_20 ⟨Nat.le_of_ble_eq_true rfl, Nat.le_of_ble_eq_true rfl⟩ rfl (fun H locs X => ?_)
    refine w_zne (tgt := 31) K dX2_factor_23 (by decide) (fun c17 => ?_) (fun c17 => ?_)
    · have h0 := if_t c17 h0
      exact J31 x1 G H locs X ls (lv_sub hl [1, 2, 0] rfl) h0
    · have h0 := if_f c17 h0
      refine lv_aload_n hx hb dX2_factor_26 rfl (lv_at hl 1 rfl) ?_
      obtain ⟨x18, ex18, h0⟩ := ob_out h0
      obtain ⟨Gv19, eGv19, h0⟩ := lt_out h0
      have kx18 := m_X2_comparison l D ca ar ag z n P r R G xs hr gq gj hg x18.1 x18.2 ex18 H.size
      rw [← eGv19] at kx18
      refine z_callV K hZ X wC_fstx wC_fstx kx18 hl.1 0 q1331 q1333 q15 q112 q1334 hv_X2_comparison ⟨⟨(by dsimp only [rm_X2_factor, rm_X2_conjunction, rm_X2_test, rm_X2_comparison]; omega), (by dsimp only [rm_X2_factor, rm_X2_conjunction, rm_X2_test, rm_X2_comparison]; omega)⟩, rfl, rfl⟩ (z_recvw K X (pl_xs.trans hg) rfl rfl) rfl rfl (Nat.le_of_ble_eq_true rfl) dX2_factor_27 ⟨Nat.le_of_ble_eq_true rfl, Nat.le_of_ble_eq_true rfl⟩ rfl (fun H locs X => ?_)
      have h0 := Option.some.inj h0
      obtain ⟨q_0, q_1⟩ := Prod.mk.inj h0
      subst q_0
      subst q_1
      subst hQ
      exact w_iret K hr0 X wC_fstx hsz dX2_factor_30
def f_X2_factor (n : Nat) : Nat → RowS → GlbS → Int32 → Option (Int32 × GlbS)
  | 0 => fun _ _ _ => none
  | k + 1 => fun R G a => fb_X2_factor n (f_X2_factor n k) R G a
theorem M_X2_factor (l : Launch) (D : va_G) (ca : Nat → ClassId) (ar : Nat → Nat → Nat) (ag : Nat → Nat) (z : ZG) (n : Nat) (P : RowsS) (r : Nat) (xs : va_W) (hr : r < 13) (gq gj : Nat) (hg : xs[gj]? = some (gq, .inr (4, [.ref (ag 3), .ref (ar r 0)]))) (k : Nat) : ∀ (R : RowS) (G : GlbS) (a1 res : Int32) (G' : GlbS), f_X2_factor n k R G a1 = some (res, G') → ∀ sz : Nat, Met l yX2_factor (ws_ yX2_factor cX2_factor 4 (some .int)) (rm_X2_factor k) (PCz z D ca (wC ar ag ca (va_up P r R) G ++ xs) sz [.ref gq, .int a1]) (QMw D (wC ar ag ca (va_up P r R) G ++ xs) (wC ar ag ca (va_up P r R) G' ++ xs) sz (some (.int res))) 0 0 (AL (wC ar ag ca (va_up P r R) G ++ xs) sz) := by
  induction k with
  | zero => intro R G a1 res G' h; cases h
  | succ k ih => intro R G a1 res G' h sz; exact m_X2_factor l D ca ar ag z n P r R G xs hr gq gj hg a1 (f_X2_factor n k) k ih res G' h sz
