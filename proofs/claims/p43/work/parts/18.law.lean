-- L_writes
def b_L_writes_40  (G_40 : GlbS) : Option GlbS :=
  some G_40
def l_L_writes_2 (a1 : Nat) (z2_2 : Int32) (Gz_2 : GlbS) : Option ((Int32 × GlbS) ⊕ GlbS) :=
  lt (f_J0_length_8abf5 a1) fun x1 =>
  if x1 ≤ z2_2 then
    some (.inr Gz_2)
  else
    ob (f_J0_charAt_5068e a1 z2_2) fun x3 =>
    if 0 ≤ (Gz_2 7 1).toInt ∧ (Gz_2 7 1).toInt < 700 then
      lt (sg Gz_2 8 (Gz_2 7 1).toNatClampNeg x3) fun Gv5 =>
      lt (sg Gv5 7 1 ((Gv5 7 1) + 1)) fun Gv6 =>
      lt (z2_2 + 1) fun x7 =>
      some (.inl (x7, Gv6))
    else none
def f_L_writes (P : RowsS) (G : GlbS) (a1 : Nat) : Option GlbS :=
  ob (wloop (fun t => l_L_writes_2 a1 t.1 t.2) 200 (0, G)) (fun t => b_L_writes_40 t)
abbrev rm_L_writes : Room := { frames := 4, cells := 0, slots := 0, locals := 85 }
set_option maxRecDepth 100000 in
set_option maxHeartbeats 4000000 in
theorem m_L_writes (l : Launch) (D : va_G) (ca : Nat → ClassId) (ar : Nat → Nat → Nat) (ag : Nat → Nat) (z : ZG) (P : RowsS) (G : GlbS) (xs : va_W) (a1 : Nat) (ha1 : a1 < 21) (G' : GlbS) (h0 : f_L_writes P G a1 = some G') (sz : Nat) : Met l yL_writes (ws_ yL_writes cL_writes 3 none) rm_L_writes (PCz z D ca (wC ar ag ca P G ++ xs) sz [.ref (ag 7), .ref (z.1 a1)]) (QMw D (wC ar ag ca P G ++ xs) (wC ar ag ca P (G') ++ xs) sz none) 0 0 (AL (wC ar ag ca P G ++ xs) sz) := by
  refine met_z (by decide +kernel) (Nat.le_of_ble_eq_true rfl) (fun p e s m args below meth c K hr0 hZ X hsz ls hl => ?_)
  have K : MC D ca p s m args meth c cL_writes 3 RL := K
  have hx := K.1
  have hb := K.2.1
  have hl : lv_has ls 3 [(0, .ref (ag 7)), (1, .ref (z.1 a1))] := hl
  generalize hQ : MQ below _ args s 0 0 _ = Q
  unfold f_L_writes at h0
  suffices Z : ∀ (H : Heap) (locs : List Loc) (X : RW D (wC ar ag ca P G ++ xs) s.heap H locs), W p l e rm_L_writes s m args below meth c H locs 0 0 Q (F0 m 0 ls []) from Z _ _ X
  intro H locs X
  have J40 : ∀ (G_40 : GlbS) (H : Heap) (locs : List Loc) (X : RW D (wC ar ag ca P G_40 ++ xs) s.heap H locs) (ls : Array Slot) (hl : lv_has ls 3 []) (h0 : b_L_writes_40 G_40 = some G'), W p l e rm_L_writes s m args below meth c H locs 0 0 Q (F0 m 40 ls []) := by
    intro G_40 H locs X ls hl h0
    unfold b_L_writes_40 at h0
    have h0 := Option.some.inj h0
    subst h0
    subst hQ
    exact w_vret K hr0 X wC_fstx hsz dL_writes_40
  refine lv_iconst (v := 0) hx hb dL_writes_0 (by decide) ?_
  refine lv_istore_n (lv' := [(2, .int 0), (0, .ref (ag 7)), (1, .ref (z.1 a1))]) hx hb dL_writes_1 rfl hl (by decide) rfl (fun ls hl => ?_)
  obtain ⟨e_1, he1, h0⟩ := ob_out h0
  have K2 : ∀ (k : Nat) (z2_2 : Int32) (Gz_2 : GlbS) (H : Heap) (locs : List Loc) (X : RW D (wC ar ag ca P Gz_2 ++ xs) s.heap H locs) (ls : Array Slot) (hl : lv_has ls 3 [(0, .ref (ag 7)), (1, .ref (z.1 a1)), (2, .int z2_2)]) (hw : wloop (fun t => l_L_writes_2 a1 t.1 t.2) k (z2_2, Gz_2) = some e_1), W p l e rm_L_writes s m args below meth c H locs 0 0 Q (F0 m 2 ls []) := by
    intro k
    induction k with
    | zero => intro z2_2 Gz_2 H locs X ls hl hw; exact (wloop_0 hw).elim
    | succ k ih1 =>
      intro z2_2 Gz_2 H locs X ls hl hw
      obtain ⟨x_1, h1, hx1⟩ := wloop_out hw
      have h1 : l_L_writes_2 a1 z2_2 Gz_2 = some x_1 := h1
      unfold l_L_writes_2 at h1
      refine lv_iload_n hx hb dL_writes_2 rfl (lv_at hl 2 rfl) ?_
      refine lv_aload_n hx hb dL_writes_3 rfl (lv_at hl 1 rfl) ?_
      obtain ⟨x1, ex1, h1⟩ := lt_out h1
      have kx1 := m_J0_length_8abf5 l D ca z (wC ar ag ca P Gz_2 ++ xs) a1 ha1 x1 ex1.symm H.size
      refine z_callV K hZ X wC_fstx wC_fstx kx1 hl.1 0 q322 q323 q324 q24 q325 hv_J0_length_8abf5 ⟨⟨Nat.le_of_ble_eq_true rfl, Nat.le_of_ble_eq_true rfl⟩, rfl, rfl⟩ (z_recv hZ X wC_fstx ha1) rfl rfl (Nat.le_of_ble_eq_true rfl) dL_writes_4 ⟨Nat.le_of_ble_eq_true rfl, Nat.le_of_ble_eq_true rfl⟩ rfl (fun H locs X => ?_)
      refine lv_icmp_ge (tgt := 40) hx hb dL_writes_7 (by decide) (fun c2 => ?_) (fun c2 => ?_)
      · have h1 := if_t c2 h1
        have q1 := wl_r h1 hx1
        exact J40 Gz_2 H locs X ls (lv_sub hl [] rfl) (by rw [q1] at h0; exact h0)
      · have h1 := if_f c2 h1
        refine lv_aload_n hx hb dL_writes_10 rfl (lv_at hl 0 rfl) ?_
        refine g_lawr K X q302 dL_writes_11 ?_
        refine lv_aload_n hx hb dL_writes_14 rfl (lv_at hl 0 rfl) ?_
        refine g_lawi K X q303 dL_writes_15 ?_
        refine lv_aload_n hx hb dL_writes_18 rfl (lv_at hl 1 rfl) ?_
        refine lv_iload_n hx hb dL_writes_19 rfl (lv_at hl 2 rfl) ?_
        obtain ⟨x3, ex3, h1⟩ := ob_out h1
        have kx3 := m_J0_charAt_5068e l D ca z (wC ar ag ca P Gz_2 ++ xs) a1 ha1 z2_2 x3 ex3 H.size
        refine z_callV K hZ X wC_fstx wC_fstx kx3 hl.1 1 q331 q332 q333 q24 q334 hv_J0_charAt_5068e ⟨⟨Nat.le_of_ble_eq_true rfl, Nat.le_of_ble_eq_true rfl⟩, rfl, rfl⟩ (z_recv hZ X wC_fstx ha1) rfl rfl (Nat.le_of_ble_eq_true rfl) dL_writes_20 ⟨Nat.le_of_ble_eq_true rfl, Nat.le_of_ble_eq_true rfl⟩ rfl (fun H locs X => ?_)
        obtain ⟨c4, h1⟩ := if_o h1
        obtain ⟨Gv5, eGv5, h1⟩ := lt_out h1
        refine s_text K X (inb_vp c4) eGv5 dL_writes_23 (fun H locs X => ?_)
        refine lv_aload_n hx hb dL_writes_24 rfl (lv_at hl 0 rfl) ?_
        refine lv_dup hx hb dL_writes_25 rfl ?_
        refine g_lawi K X q303 dL_writes_26 ?_
        refine lv_iconst (v := 1) hx hb dL_writes_29 (by decide) ?_
        refine lv_iadd hx hb dL_writes_30 ?_
        obtain ⟨Gv6, eGv6, h1⟩ := lt_out h1
        refine p_lawi K X eGv6 q303 dL_writes_31 (fun H locs X => ?_)
        obtain ⟨x7, ex7, h1⟩ := lt_out h1
        refine lv_iinc (v := x7) (lv' := [(2, .int x7), (0, .ref (ag 7)), (1, .ref (z.1 a1))]) hx hb dL_writes_34 hl (k := 2) rfl (by rw [ex7]; rfl) (by decide) rfl (fun ls hl => ?_)
        refine lv_goto (tgt := 2) hx hb dL_writes_37 (by decide) ?_
        exact ih1 x7 Gv6 H locs X ls (lv_sub hl [1, 2, 0] rfl) (wl_l h1 hx1)
  exact K2 200 0 G H locs X ls (lv_sub hl [1, 2, 0] rfl) he1
-- L_spaced
def b_L_spaced_84  (G_84 : GlbS) : Option GlbS :=
  some G_84
def l_L_spaced_44 (y44_l2 : Int32) (z44_3 : Int32) (Gz_44 : GlbS) : Option ((Int32 × GlbS) ⊕ GlbS) :=
  if z44_3 ≤ 0 then
    some (.inr Gz_44)
  else
    if ¬ z44_3 = 0 then
      if 0 ≤ (Gz_44 7 1).toInt ∧ (Gz_44 7 1).toInt < 700 then
        lt (sg Gz_44 8 (Gz_44 7 1).toNatClampNeg (48 + ((y44_l2 / z44_3) - (y44_l2 / z44_3) / 10 * 10))) fun Gv10 =>
        lt (sg Gv10 7 1 ((Gv10 7 1) + 1)) fun Gv11 =>
        lt (z44_3 / 10) fun x12 =>
        some (.inl (x12, Gv11))
      else none
    else none
def b_L_spaced_44  (y44_l2 : Int32) (y44_l3 : Int32) (G_44 : GlbS) : Option GlbS :=
  ob (wloop (fun t => l_L_spaced_44 y44_l2 t.1 t.2) 200 (y44_l3, G_44)) (fun t => b_L_spaced_84 t)
def l_L_spaced_28 (y25_s0 : Int32) (z28_3 : Int32) : Option (Int32 ⊕ Int32) :=
  if ¬ z28_3 = 0 then
    if (y25_s0 / z28_3) ≤ 9 then
      some (.inr z28_3)
    else
      lt (z28_3 * 10) fun x13 =>
      some (.inl x13)
  else none
def b_L_spaced_25  (y25_s0 : Int32) (G_25 : GlbS) : Option GlbS :=
  ob (wloop (fun t => l_L_spaced_28 y25_s0 t) 200 1) (fun t => b_L_spaced_44 y25_s0 t G_25)
def b_L_spaced_12 (P : RowsS) (a1 : Int32) (y12_s1 : Nat) (G_12 : GlbS) : Option GlbS :=
  ob (f_L_writes P G_12 y12_s1) fun x2 =>
  lt (x2) fun Gv3 =>
  if 0 ≤ a1 then
    b_L_spaced_25 a1 Gv3
  else
    b_L_spaced_25 (-a1) Gv3
def f_L_spaced (P : RowsS) (G : GlbS) (a1 : Int32) : Option GlbS :=
  if 0 ≤ a1 then
    b_L_spaced_12 P a1 2 G
  else
    b_L_spaced_12 P a1 1 G
abbrev rm_L_spaced : Room := { frames := 5, cells := 0, slots := 0, locals := 107 }
set_option maxRecDepth 100000 in
set_option maxHeartbeats 4000000 in
theorem m_L_spaced (l : Launch) (D : va_G) (ca : Nat → ClassId) (ar : Nat → Nat → Nat) (ag : Nat → Nat) (z : ZG) (P : RowsS) (G : GlbS) (xs : va_W) (a1 : Int32) (G' : GlbS) (h0 : f_L_spaced P G a1 = some G') (sz : Nat) : Met l yL_spaced (ws_ yL_spaced cL_spaced 4 none) rm_L_spaced (PCz z D ca (wC ar ag ca P G ++ xs) sz [.ref (ag 7), .int a1]) (QMw D (wC ar ag ca P G ++ xs) (wC ar ag ca P (G') ++ xs) sz none) 0 0 (AL (wC ar ag ca P G ++ xs) sz) := by
  refine met_z (by decide +kernel) (Nat.le_of_ble_eq_true rfl) (fun p e s m args below meth c K hr0 hZ X hsz ls hl => ?_)
  have K : MC D ca p s m args meth c cL_spaced 4 RL := K
  have hx := K.1
  have hb := K.2.1
  have hl : lv_has ls 4 [(0, .ref (ag 7)), (1, .int a1)] := hl
  generalize hQ : MQ below _ args s 0 0 _ = Q
  unfold f_L_spaced at h0
  suffices Z : ∀ (H : Heap) (locs : List Loc) (X : RW D (wC ar ag ca P G ++ xs) s.heap H locs), W p l e rm_L_spaced s m args below meth c H locs 0 0 Q (F0 m 0 ls []) from Z _ _ X
  intro H locs X
  have J84 : ∀ (G_84 : GlbS) (H : Heap) (locs : List Loc) (X : RW D (wC ar ag ca P G_84 ++ xs) s.heap H locs) (ls : Array Slot) (hl : lv_has ls 4 []) (h0 : b_L_spaced_84 G_84 = some G'), W p l e rm_L_spaced s m args below meth c H locs 0 0 Q (F0 m 84 ls []) := by
    intro G_84 H locs X ls hl h0
    unfold b_L_spaced_84 at h0
    have h0 := Option.some.inj h0
    subst h0
    subst hQ
    exact w_vret K hr0 X wC_fstx hsz dL_spaced_84
  have J44 : ∀ (y44_l2 : Int32) (y44_l3 : Int32) (G_44 : GlbS) (H : Heap) (locs : List Loc) (X : RW D (wC ar ag ca P G_44 ++ xs) s.heap H locs) (ls : Array Slot) (hl : lv_has ls 4 [(0, .ref (ag 7)), (2, .int y44_l2), (3, .int y44_l3)]) (h0 : b_L_spaced_44 y44_l2 y44_l3 G_44 = some G'), W p l e rm_L_spaced s m args below meth c H locs 0 0 Q (F0 m 44 ls []) := by
    intro y44_l2 y44_l3 G_44 H locs X ls hl h0
    unfold b_L_spaced_44 at h0
    obtain ⟨e_1, he1, h0⟩ := ob_out h0
    have K44 : ∀ (k : Nat) (z44_3 : Int32) (Gz_44 : GlbS) (H : Heap) (locs : List Loc) (X : RW D (wC ar ag ca P Gz_44 ++ xs) s.heap H locs) (ls : Array Slot) (hl : lv_has ls 4 [(0, .ref (ag 7)), (2, .int y44_l2), (3, .int z44_3)]) (hw : wloop (fun t => l_L_spaced_44 y44_l2 t.1 t.2) k (z44_3, Gz_44) = some e_1), W p l e rm_L_spaced s m args below meth c H locs 0 0 Q (F0 m 44 ls []) := by
      intro k
      induction k with
      | zero => intro z44_3 Gz_44 H locs X ls hl hw; exact (wloop_0 hw).elim
      | succ k ih1 =>
        intro z44_3 Gz_44 H locs X ls hl hw
        obtain ⟨x_1, h1, hx1⟩ := wloop_out hw
        have h1 : l_L_spaced_44 y44_l2 z44_3 Gz_44 = some x_1 := h1
        unfold l_L_spaced_44 at h1
        refine lv_iload_n hx hb dL_spaced_44 rfl (lv_at hl 2 rfl) ?_
        refine lv_if_le (tgt := 84) hx hb dL_spaced_45 (by decide) (fun c7 => ?_) (fun c7 => ?_)
        · have h1 := if_t c7 h1
          have q1 := wl_r h1 hx1
          exact J84 Gz_44 H locs X ls (lv_sub hl [] rfl) (by rw [q1] at h0; exact h0)
        · have h1 := if_f c7 h1
          refine lv_aload_n hx hb dL_spaced_48 rfl (lv_at hl 0 rfl) ?_
          refine g_lawr K X q302 dL_spaced_49 ?_
          refine lv_aload_n hx hb dL_spaced_52 rfl (lv_at hl 0 rfl) ?_
          refine g_lawi K X q303 dL_spaced_53 ?_
          refine lv_bipush (v := 48) hx hb dL_spaced_56 (by decide) ?_
          refine lv_iload_n hx hb dL_spaced_58 rfl (lv_at hl 1 rfl) ?_
          refine lv_iload_n hx hb dL_spaced_59 rfl (lv_at hl 2 rfl) ?_
          obtain ⟨c8, h1⟩ := if_o h1
          refine lv_idiv hx hb dL_spaced_60 c8 ?_
          refine lv_bipush (v := 10) hx hb dL_spaced_61 (by decide) ?_
          refine lv_irem hx hb dL_spaced_63 (by decide) ?_
          refine lv_iadd hx hb dL_spaced_64 ?_
          obtain ⟨c9, h1⟩ := if_o h1
          obtain ⟨Gv10, eGv10, h1⟩ := lt_out h1
          refine s_text K X (inb_vp c9) eGv10 dL_spaced_65 (fun H locs X => ?_)
          refine lv_aload_n hx hb dL_spaced_66 rfl (lv_at hl 0 rfl) ?_
          refine lv_dup hx hb dL_spaced_67 rfl ?_
          refine g_lawi K X q303 dL_spaced_68 ?_
          refine lv_iconst (v := 1) hx hb dL_spaced_71 (by decide) ?_
          refine lv_iadd hx hb dL_spaced_72 ?_
          obtain ⟨Gv11, eGv11, h1⟩ := lt_out h1
          refine p_lawi K X eGv11 q303 dL_spaced_73 (fun H locs X => ?_)
          refine lv_iload_n hx hb dL_spaced_76 rfl (lv_at hl 2 rfl) ?_
          refine lv_bipush (v := 10) hx hb dL_spaced_77 (by decide) ?_
          refine lv_idiv hx hb dL_spaced_79 (by decide) ?_
          obtain ⟨x12, ex12, h1⟩ := lt_out h1
          refine w_int ex12 ?_
          refine lv_istore_n (lv' := [(3, .int x12), (0, .ref (ag 7)), (2, .int y44_l2)]) hx hb dL_spaced_80 rfl hl (by decide) rfl (fun ls hl => ?_)
          refine lv_goto (tgt := 44) hx hb dL_spaced_81 (by decide) ?_
          exact ih1 x12 Gv11 H locs X ls (lv_sub hl [1, 2, 0] rfl) (wl_l h1 hx1)
    exact K44 200 y44_l3 G_44 H locs X ls (lv_sub hl [0, 1, 2] rfl) he1
  have J25 : ∀ (y25_s0 : Int32) (G_25 : GlbS) (H : Heap) (locs : List Loc) (X : RW D (wC ar ag ca P G_25 ++ xs) s.heap H locs) (ls : Array Slot) (hl : lv_has ls 4 [(0, .ref (ag 7))]) (h0 : b_L_spaced_25 y25_s0 G_25 = some G'), W p l e rm_L_spaced s m args below meth c H locs 0 0 Q (F0 m 25 ls [.int y25_s0]) := by
    intro y25_s0 G_25 H locs X ls hl h0
    unfold b_L_spaced_25 at h0
    refine lv_istore_n (lv' := [(2, .int y25_s0), (0, .ref (ag 7))]) hx hb dL_spaced_25 rfl hl (by decide) rfl (fun ls hl => ?_)
    refine lv_iconst (v := 1) hx hb dL_spaced_26 (by decide) ?_
    refine lv_istore_n (lv' := [(3, .int 1), (2, .int y25_s0), (0, .ref (ag 7))]) hx hb dL_spaced_27 rfl hl (by decide) rfl (fun ls hl => ?_)
    obtain ⟨e_1, he1, h0⟩ := ob_out h0
    have K28 : ∀ (k : Nat) (z28_3 : Int32) (H : Heap) (locs : List Loc) (X : RW D (wC ar ag ca P G_25 ++ xs) s.heap H locs) (ls : Array Slot) (hl : lv_has ls 4 [(0, .ref (ag 7)), (2, .int y25_s0), (3, .int z28_3)]) (hw : wloop (fun t => l_L_spaced_28 y25_s0 t) k z28_3 = some e_1), W p l e rm_L_spaced s m args below meth c H locs 0 0 Q (F0 m 28 ls []) := by
      intro k
      induction k with
      | zero => intro z28_3 H locs X ls hl hw; exact (wloop_0 hw).elim
      | succ k ih1 =>
        intro z28_3 H locs X ls hl hw
        obtain ⟨x_1, h1, hx1⟩ := wloop_out hw
        have h1 : l_L_spaced_28 y25_s0 z28_3 = some x_1 := h1
        unfold l_L_spaced_28 at h1
        refine lv_iload_n hx hb dL_spaced_28 rfl (lv_at hl 1 rfl) ?_
        refine lv_iload_n hx hb dL_spaced_29 rfl (lv_at hl 2 rfl) ?_
        obtain ⟨c5, h1⟩ := if_o h1
        refine lv_idiv hx hb dL_spaced_30 c5 ?_
        refine lv_bipush (v := 9) hx hb dL_spaced_31 (by decide) ?_
        refine lv_icmp_le (tgt := 44) hx hb dL_spaced_33 (by decide) (fun c6 => ?_) (fun c6 => ?_)
        · have h1 := if_t c6 h1
          have q1 := wl_r h1 hx1
          exact J44 y25_s0 z28_3 G_25 H locs X ls (lv_sub hl [0, 1, 2] rfl) (by rw [q1] at h0; exact h0)
        · have h1 := if_f c6 h1
          refine lv_iload_n hx hb dL_spaced_36 rfl (lv_at hl 2 rfl) ?_
          refine lv_bipush (v := 10) hx hb dL_spaced_37 (by decide) ?_
          refine lv_imul hx hb dL_spaced_39 ?_
          obtain ⟨x13, ex13, h1⟩ := lt_out h1
          refine w_int ex13 ?_
          refine lv_istore_n (lv' := [(3, .int x13), (0, .ref (ag 7)), (2, .int y25_s0)]) hx hb dL_spaced_40 rfl hl (by decide) rfl (fun ls hl => ?_)
          refine lv_goto (tgt := 28) hx hb dL_spaced_41 (by decide) ?_
          exact ih1 x13 H locs X ls (lv_sub hl [1, 2, 0] rfl) (wl_l h1 hx1)
    exact K28 200 1 H locs X ls (lv_sub hl [2, 1, 0] rfl) he1
  have J12 : ∀ (y12_s1 : Nat) (G_12 : GlbS) (H : Heap) (locs : List Loc) (X : RW D (wC ar ag ca P G_12 ++ xs) s.heap H locs) (ls : Array Slot) (hl : lv_has ls 4 [(0, .ref (ag 7)), (1, .int a1)]) (hy12_s1 : y12_s1 < 21) (h0 : b_L_spaced_12 P a1 y12_s1 G_12 = some G'), W p l e rm_L_spaced s m args below meth c H locs 0 0 Q (F0 m 12 ls [.ref (z.1 y12_s1), .ref (ag 7)]) := by
    intro y12_s1 G_12 H locs X ls hl hy12_s1 h0
    unfold b_L_spaced_12 at h0
    obtain ⟨x2, ex2, h0⟩ := ob_out h0
    obtain ⟨Gv3, eGv3, h0⟩ := lt_out h0
    have kx2 := m_L_writes l D ca ar ag z P G_12 xs y12_s1 hy12_s1 x2 ex2 H.size
    rw [← eGv3] at kx2
    refine z_callV K hZ X wC_fstx wC_fstx kx2 hl.1 1 q318 q320 q1 q15 q321 hv_L_writes ⟨⟨Nat.le_of_ble_eq_true rfl, Nat.le_of_ble_eq_true rfl⟩, rfl, rfl⟩ (z_recvw K X (pl_glb (k := 7) (by decide)) rfl rfl) rfl rfl (Nat.le_of_ble_eq_true rfl) dL_spaced_12 ⟨Nat.le_of_ble_eq_true rfl, Nat.le_of_ble_eq_true rfl⟩ rfl (fun H locs X => ?_)
    refine lv_iload_n hx hb dL_spaced_15 rfl (lv_at hl 1 rfl) ?_
    refine lv_if_ge (tgt := 24) hx hb dL_spaced_16 (by decide) (fun c4 => ?_) (fun c4 => ?_)
    · have h0 := if_t c4 h0
      refine lv_iload_n hx hb dL_spaced_24 rfl (lv_at hl 1 rfl) ?_
      exact J25 a1 Gv3 H locs X ls (lv_sub hl [0] rfl) h0
    · have h0 := if_f c4 h0
      refine lv_iload_n hx hb dL_spaced_19 rfl (lv_at hl 1 rfl) ?_
      refine lv_ineg hx hb dL_spaced_20 ?_
      refine lv_goto (tgt := 25) hx hb dL_spaced_21 (by decide) ?_
      exact J25 (-a1) Gv3 H locs X ls (lv_sub hl [0] rfl) h0
  refine lv_aload_n hx hb dL_spaced_0 rfl (lv_at hl 0 rfl) ?_
  refine lv_iload_n hx hb dL_spaced_1 rfl (lv_at hl 1 rfl) ?_
  refine lv_if_ge (tgt := 10) hx hb dL_spaced_2 (by decide) (fun c1 => ?_) (fun c1 => ?_)
  · have h0 := if_t c1 h0
    refine z_ldc K hZ 2 (by decide) ⟨rfl, rfl⟩ dL_spaced_10 ?_
    exact J12 2 G H locs X ls (lv_sub hl [0, 1] rfl) (by decide) h0
  · have h0 := if_f c1 h0
    refine z_ldc K hZ 1 (by decide) ⟨rfl, rfl⟩ dL_spaced_5 ?_
    refine lv_goto (tgt := 12) hx hb dL_spaced_7 (by decide) ?_
    exact J12 1 G H locs X ls (lv_sub hl [0, 1] rfl) (by decide) h0
-- L_cell
def f_L_cell (z : ZG) (a2 : Int32) : Option Int32 :=
  if (nI z.2.2.2.1) ≤ a2 then
    some 0
  else
    if 0 ≤ a2.toInt ∧ a2.toInt < (z.2.2.2.1 : Int) then
      some ((z.2.2.2.2 a2.toNatClampNeg) &&& 1073741823)
    else none
abbrev rm_L_cell : Room := { frames := 0, cells := 0, slots := 0, locals := 0 }
set_option maxRecDepth 100000 in
set_option maxHeartbeats 4000000 in
theorem m_L_cell (l : Launch) (D : va_G) (ca : Nat → ClassId) (z : ZG) (ws : va_W) (a2 : Int32) (res : Int32) (h0 : f_L_cell z a2 = some res) (sz : Nat) : Met l yL_cell (ws_ yL_cell cL_cell 2 (some .int)) rm_L_cell (PCz z D ca (ws) sz [.ref z.2.2.1, .int a2]) (QMw D (ws) (ws) sz (some (.int res))) 0 0 (AL (ws) sz) := by
  refine met_z (by decide +kernel) (Nat.le_of_ble_eq_true rfl) (fun p e s m args below meth c K hr0 hZ X hsz ls hl => ?_)
  have K : MC D ca p s m args meth c cL_cell 2 RL := K
  have hx := K.1
  have hb := K.2.1
  have hl : lv_has ls 2 [(0, .ref z.2.2.1), (1, .int a2)] := hl
  generalize hQ : MQ below _ args s 0 0 _ = Q
  unfold f_L_cell at h0
  suffices Z : ∀ (H : Heap) (locs : List Loc) (X : RW D (ws) s.heap H locs), W p l e rm_L_cell s m args below meth c H locs 0 0 Q (F0 m 0 ls []) from Z _ _ X
  intro H locs X
  refine lv_iload_n hx hb dL_cell_0 rfl (lv_at hl 1 rfl) ?_
  refine lv_aload_n hx hb dL_cell_1 rfl (lv_at hl 0 rfl) ?_
  refine z_ilen K hZ X rfl dL_cell_2 ?_
  refine lv_icmp_ge (tgt := 15) hx hb dL_cell_3 (by decide) (fun c1 => ?_) (fun c1 => ?_)
  · have h0 := if_t c1 h0
    refine lv_iconst (v := 0) hx hb dL_cell_15 (by decide) ?_
    have h0 := Option.some.inj h0
    subst h0
    subst hQ
    exact w_iret K hr0 X rfl hsz dL_cell_16
  · have h0 := if_f c1 h0
    refine lv_aload_n hx hb dL_cell_6 rfl (lv_at hl 0 rfl) ?_
    refine lv_iload_n hx hb dL_cell_7 rfl (lv_at hl 1 rfl) ?_
    obtain ⟨c2, h0⟩ := if_o h0
    refine z_iald K hZ X rfl (inb_vp c2) dL_cell_8 ?_
    refine lv_ldc hx hb K.2.2.2.1 (K.2.2.2.2.1 _ q316) dL_cell_9 ?_
    refine lv_iand hx hb dL_cell_11 ?_
    refine lv_goto (tgt := 16) hx hb dL_cell_12 (by decide) ?_
    have h0 := Option.some.inj h0
    subst h0
    subst hQ
    exact w_iret K hr0 X rfl hsz dL_cell_16
-- L_run
def f_L_run (P : RowsS) (G : GlbS) (a2 : Int32) (a3 : Int64) : Option Int64 :=
  ob (f_X7_tube P G a2 9) fun x1 =>
  ob (f_X7_tube P G a2 10) fun x2 =>
  ob (f_X7_tube P G a2 3) fun x3 =>
  if ¬ x3.toInt64 = 0 then
    some ((((a3 + x1.toInt64) + x2.toInt64) * 1000) / x3.toInt64)
  else none
abbrev rm_L_run : Room := { frames := 3, cells := 0, slots := 0, locals := 66 }
set_option maxRecDepth 100000 in
set_option maxHeartbeats 4000000 in
theorem m_L_run (l : Launch) (D : va_G) (ca : Nat → ClassId) (ar : Nat → Nat → Nat) (ag : Nat → Nat) (z : ZG) (P : RowsS) (G : GlbS) (xs : va_W) (a2 : Int32) (a3 : Int64) (res : Int64) (h0 : f_L_run P G a2 a3 = some res) (sz : Nat) : Met l yL_run (ws_ yL_run cL_run 4 (some .long)) rm_L_run (PCz z D ca (wC ar ag ca P G ++ xs) sz [.ref (ag 0), .int a2, .long a3]) (QMw D (wC ar ag ca P G ++ xs) (wC ar ag ca P G ++ xs) sz (some (.long res))) 0 0 (AL (wC ar ag ca P G ++ xs) sz) := by
  refine met_z (by decide +kernel) (Nat.le_of_ble_eq_true rfl) (fun p e s m args below meth c K hr0 hZ X hsz ls hl => ?_)
  have K : MC D ca p s m args meth c cL_run 4 RL := K
  have hx := K.1
  have hb := K.2.1
  have hl : lv_has ls 4 [(0, .ref (ag 0)), (1, .int a2), (2, .long a3)] := hl
  generalize hQ : MQ below _ args s 0 0 _ = Q
  unfold f_L_run at h0
  suffices Z : ∀ (H : Heap) (locs : List Loc) (X : RW D (wC ar ag ca P G ++ xs) s.heap H locs), W p l e rm_L_run s m args below meth c H locs 0 0 Q (F0 m 0 ls []) from Z _ _ X
  intro H locs X
  refine lv_lload_n hx hb dL_run_0 rfl (lv_at hl 2 rfl) ?_
  refine lv_aload_n hx hb dL_run_1 rfl (lv_at hl 0 rfl) ?_
  refine lv_iload_n hx hb dL_run_2 rfl (lv_at hl 1 rfl) ?_
  refine lv_bipush (v := 9) hx hb dL_run_3 (by decide) ?_
  obtain ⟨x1, ex1, h0⟩ := ob_out h0
  have kx1 := m_X7_tube l D ca ar ag z P G xs a2 9 x1 ex1 H.size
  refine z_callV K hZ X wC_fstx wC_fstx kx1 hl.1 2 q710 q711 q712 q16 q713 hv_X7_tube ⟨⟨Nat.le_of_ble_eq_true rfl, Nat.le_of_ble_eq_true rfl⟩, rfl, rfl⟩ (z_recvw K X (pl_glb (k := 0) (by decide)) rfl rfl) rfl rfl (Nat.le_of_ble_eq_true rfl) dL_run_5 ⟨Nat.le_of_ble_eq_true rfl, Nat.le_of_ble_eq_true rfl⟩ rfl (fun H locs X => ?_)
  refine lv_i2l hx hb dL_run_8 rfl ?_
  refine lv_ladd hx hb dL_run_9 ?_
  refine lv_aload_n hx hb dL_run_10 rfl (lv_at hl 0 rfl) ?_
  refine lv_iload_n hx hb dL_run_11 rfl (lv_at hl 1 rfl) ?_
  refine lv_bipush (v := 10) hx hb dL_run_12 (by decide) ?_
  obtain ⟨x2, ex2, h0⟩ := ob_out h0
  have kx2 := m_X7_tube l D ca ar ag z P G xs a2 10 x2 ex2 H.size
  refine z_callV K hZ X wC_fstx wC_fstx kx2 hl.1 2 q710 q711 q712 q16 q713 hv_X7_tube ⟨⟨Nat.le_of_ble_eq_true rfl, Nat.le_of_ble_eq_true rfl⟩, rfl, rfl⟩ (z_recvw K X (pl_glb (k := 0) (by decide)) rfl rfl) rfl rfl (Nat.le_of_ble_eq_true rfl) dL_run_14 ⟨Nat.le_of_ble_eq_true rfl, Nat.le_of_ble_eq_true rfl⟩ rfl (fun H locs X => ?_)
  refine lv_i2l hx hb dL_run_17 rfl ?_
  refine lv_ladd hx hb dL_run_18 ?_
  refine lv_ldc2 hx hb K.2.2.2.1 (K.2.2.2.2.1 _ q751) dL_run_19 ?_
  refine lv_lmul hx hb dL_run_22 ?_
  refine lv_aload_n hx hb dL_run_23 rfl (lv_at hl 0 rfl) ?_
  refine lv_iload_n hx hb dL_run_24 rfl (lv_at hl 1 rfl) ?_
  refine lv_iconst (v := 3) hx hb dL_run_25 (by decide) ?_
  obtain ⟨x3, ex3, h0⟩ := ob_out h0
  have kx3 := m_X7_tube l D ca ar ag z P G xs a2 3 x3 ex3 H.size
  refine z_callV K hZ X wC_fstx wC_fstx kx3 hl.1 2 q710 q711 q712 q16 q713 hv_X7_tube ⟨⟨Nat.le_of_ble_eq_true rfl, Nat.le_of_ble_eq_true rfl⟩, rfl, rfl⟩ (z_recvw K X (pl_glb (k := 0) (by decide)) rfl rfl) rfl rfl (Nat.le_of_ble_eq_true rfl) dL_run_26 ⟨Nat.le_of_ble_eq_true rfl, Nat.le_of_ble_eq_true rfl⟩ rfl (fun H locs X => ?_)
  refine lv_i2l hx hb dL_run_29 rfl ?_
  obtain ⟨c4, h0⟩ := if_o h0
  refine lv_ldiv hx hb dL_run_30 c4 ?_
  have h0 := Option.some.inj h0
  subst h0
  subst hQ
  exact w_lret K hr0 X wC_fstx hsz dL_run_31
-- L_isLevel
def b_L_isLevel_138 (P : RowsS) (G : GlbS) (a2 : Int32) (y138_l2 : Int64) (y138_l4 : Int64) (y138_l6 : Int64) (y138_l8 : Int64) : Option Bool :=
  ob (f_X7_account 200 P G a2 0) fun x7 =>
  ob (f_X7_account 200 P G a2 1) fun x8 =>
  if x8 = y138_l6 then
    ob (f_X7_account 200 P G a2 4) fun x10 =>
    if x10 = ((x7 - (y138_l4 * y138_l2)) - y138_l6) then
      ob (f_X7_account 200 P G a2 4) fun x12 =>
      if 0 ≤ x12 then
        if ((y138_l4 * (y138_l2 + 1)) + y138_l8) ≤ x7 then
          some false
        else
          ob (f_X7_account 200 P G a2 3) fun x15 =>
          ob (f_X7_account 200 P G a2 2) fun x16 =>
          if x7 = (x15 - x16) then
            some true
          else
            some false
      else
        some false
    else
      some false
  else
    some false
def b_L_isLevel_132  (y132_l6 : Int64) (y132_l8 : Int64) (y132_l10 : Int32) : Option ((Int64 × Int64 × Int32) ⊕ (Int64 × Int64)) :=
  lt (y132_l10 + 1) fun x20 =>
  some (.inl (y132_l6, y132_l8, x20))
def l_L_isLevel_26 (P : RowsS) (G : GlbS) (a2 : Int32) (x2 : Int64) (z26_6 : Int64) (z26_8 : Int64) (z26_10 : Int32) : Option ((Int64 × Int64 × Int32) ⊕ (Int64 × Int64)) :=
  ob (f_X7_size 200 P G 2) fun x5 =>
  if x5 ≤ z26_10 then
    some (.inr (z26_6, z26_8))
  else
    ob (f_X7_tube P G z26_10 0) fun x18 =>
    if x18 = a2 then
      ob (f_X7_tube P G z26_10 6) fun x21 =>
      if x21 = 0 then
        ob (f_X7_tube P G z26_10 2) fun x23 =>
        ob (f_X7_tube P G z26_10 2) fun x24 =>
        lt ((x23 * x24).toInt64) fun x25 =>
        ob (f_X7_tube P G z26_10 7) fun x26 =>
        lt (z26_6 + (x26.toInt64 * x25)) fun x27 =>
        ob (f_X7_tube P G z26_10 4) fun x28 =>
        ob (f_L_run P G z26_10 (x2 + 1)) fun x29 =>
        lt (z26_8 + ((lmax 0 (lmin (100 * x28.toInt64) x29)) * x25)) fun x30 =>
        b_L_isLevel_132 x27 x30 z26_10
      else
        b_L_isLevel_132 z26_6 z26_8 z26_10
    else
      b_L_isLevel_132 z26_6 z26_8 z26_10
def f_L_isLevel (P : RowsS) (G : GlbS) (a2 : Int32) : Option Bool :=
  ob (f_X7_leg P G a2 3) fun x1 =>
  lt (x1.toInt64) fun x2 =>
  ob (f_X7_leg P G a2 1) fun x3 =>
  lt (x3.toInt64) fun x4 =>
  ob (wloop (fun t => l_L_isLevel_26 P G a2 x2 t.1 t.2.1 t.2.2) 200 (0, 0, 0)) (fun t => b_L_isLevel_138 P G a2 x2 x4 t.1 t.2)
abbrev rm_L_isLevel : Room := { frames := 4, cells := 0, slots := 0, locals := 114 }
set_option maxRecDepth 100000 in
set_option maxHeartbeats 4000000 in
theorem m_L_isLevel (l : Launch) (D : va_G) (ca : Nat → ClassId) (ar : Nat → Nat → Nat) (ag : Nat → Nat) (z : ZG) (P : RowsS) (G : GlbS) (xs : va_W) (a2 : Int32) (res : Bool) (h0 : f_L_isLevel P G a2 = some res) (sz : Nat) : Met l yL_isLevel (ws_ yL_isLevel cL_isLevel 13 (some .boolean)) rm_L_isLevel (PCz z D ca (wC ar ag ca P G ++ xs) sz [.ref (ag 0), .int a2]) (QMw D (wC ar ag ca P G ++ xs) (wC ar ag ca P G ++ xs) sz (some (.int (b2i res)))) 0 0 (AL (wC ar ag ca P G ++ xs) sz) := by
  refine met_z (by decide +kernel) (Nat.le_of_ble_eq_true rfl) (fun p e s m args below meth c K hr0 hZ X hsz ls hl => ?_)
  have K : MC D ca p s m args meth c cL_isLevel 13 RL := K
  have hx := K.1
  have hb := K.2.1
  have hl : lv_has ls 13 [(0, .ref (ag 0)), (1, .int a2)] := hl
  generalize hQ : MQ below _ args s 0 0 _ = Q
  unfold f_L_isLevel at h0
  suffices Z : ∀ (H : Heap) (locs : List Loc) (X : RW D (wC ar ag ca P G ++ xs) s.heap H locs), W p l e rm_L_isLevel s m args below meth c H locs 0 0 Q (F0 m 0 ls []) from Z _ _ X
  intro H locs X
  have J138 : ∀ (y138_l2 : Int64) (y138_l4 : Int64) (y138_l6 : Int64) (y138_l8 : Int64) (H : Heap) (locs : List Loc) (X : RW D (wC ar ag ca P G ++ xs) s.heap H locs) (ls : Array Slot) (hl : lv_has ls 13 [(0, .ref (ag 0)), (1, .int a2), (2, .long y138_l2), (4, .long y138_l4), (6, .long y138_l6), (8, .long y138_l8)]) (h0 : b_L_isLevel_138 P G a2 y138_l2 y138_l4 y138_l6 y138_l8 = some res), W p l e rm_L_isLevel s m args below meth c H locs 0 0 Q (F0 m 138 ls []) := by
    intro y138_l2 y138_l4 y138_l6 y138_l8 H locs X ls hl h0
    unfold b_L_isLevel_138 at h0
    refine lv_aload_n hx hb dL_isLevel_138 rfl (lv_at hl 0 rfl) ?_
    refine lv_iload_n hx hb dL_isLevel_139 rfl (lv_at hl 1 rfl) ?_
    refine lv_iconst (v := 0) hx hb dL_isLevel_140 (by decide) ?_
    obtain ⟨x7, ex7, h0⟩ := ob_out h0
    have kx7 := m_X7_account l D ca ar ag z 200 P G xs a2 0 x7 ex7 H.size
    refine z_callV K hZ X wC_fstx wC_fstx kx7 hl.1 2 q764 q765 q766 q16 q767 hv_X7_account ⟨⟨Nat.le_of_ble_eq_true rfl, Nat.le_of_ble_eq_true rfl⟩, rfl, rfl⟩ (z_recvw K X (pl_glb (k := 0) (by decide)) rfl rfl) rfl rfl (Nat.le_of_ble_eq_true rfl) dL_isLevel_141 ⟨Nat.le_of_ble_eq_true rfl, Nat.le_of_ble_eq_true rfl⟩ rfl (fun H locs X => ?_)
    refine lv_lstore (lv' := [(10, .long x7), (0, .ref (ag 0)), (1, .int a2), (2, .long y138_l2), (4, .long y138_l4), (6, .long y138_l6), (8, .long y138_l8)]) hx hb dL_isLevel_144 hl (by decide) rfl (fun ls hl => ?_)
    refine lv_aload_n hx hb dL_isLevel_146 rfl (lv_at hl 1 rfl) ?_
    refine lv_iload_n hx hb dL_isLevel_147 rfl (lv_at hl 2 rfl) ?_
    refine lv_iconst (v := 1) hx hb dL_isLevel_148 (by decide) ?_
    obtain ⟨x8, ex8, h0⟩ := ob_out h0
    have kx8 := m_X7_account l D ca ar ag z 200 P G xs a2 1 x8 ex8 H.size
    refine z_callV K hZ X wC_fstx wC_fstx kx8 hl.1 2 q764 q765 q766 q16 q767 hv_X7_account ⟨⟨Nat.le_of_ble_eq_true rfl, Nat.le_of_ble_eq_true rfl⟩, rfl, rfl⟩ (z_recvw K X (pl_glb (k := 0) (by decide)) rfl rfl) rfl rfl (Nat.le_of_ble_eq_true rfl) dL_isLevel_149 ⟨Nat.le_of_ble_eq_true rfl, Nat.le_of_ble_eq_true rfl⟩ rfl (fun H locs X => ?_)
    refine lv_lload hx hb dL_isLevel_152 (lv_at hl 5 rfl) ?_
    refine w_bne (tgt := 189) K dL_isLevel_154 dL_isLevel_155 (by decide) (fun c9 => ?_) (fun c9 => ?_)
    · have h0 := if_f c9 h0
      refine lv_iconst (v := 0) hx hb dL_isLevel_189 (by decide) ?_
      have h0 := Option.some.inj h0
      subst h0
      subst hQ
      refine w_int (y := b2i false) (by decide) ?_
      exact w_zret K hr0 X wC_fstx hsz (b2i_nar _) dL_isLevel_190
    · have h0 := if_t c9 h0
      refine lv_aload_n hx hb dL_isLevel_158 rfl (lv_at hl 1 rfl) ?_
      refine lv_iload_n hx hb dL_isLevel_159 rfl (lv_at hl 2 rfl) ?_
      refine lv_iconst (v := 4) hx hb dL_isLevel_160 (by decide) ?_
      obtain ⟨x10, ex10, h0⟩ := ob_out h0
      have kx10 := m_X7_account l D ca ar ag z 200 P G xs a2 4 x10 ex10 H.size
      refine z_callV K hZ X wC_fstx wC_fstx kx10 hl.1 2 q764 q765 q766 q16 q767 hv_X7_account ⟨⟨Nat.le_of_ble_eq_true rfl, Nat.le_of_ble_eq_true rfl⟩, rfl, rfl⟩ (z_recvw K X (pl_glb (k := 0) (by decide)) rfl rfl) rfl rfl (Nat.le_of_ble_eq_true rfl) dL_isLevel_161 ⟨Nat.le_of_ble_eq_true rfl, Nat.le_of_ble_eq_true rfl⟩ rfl (fun H locs X => ?_)
      refine lv_lload hx hb dL_isLevel_164 (lv_at hl 0 rfl) ?_
      refine lv_lload hx hb dL_isLevel_166 (lv_at hl 4 rfl) ?_
      refine lv_lload_n hx hb dL_isLevel_168 rfl (lv_at hl 3 rfl) ?_
      refine lv_lmul hx hb dL_isLevel_169 ?_
      refine lv_lsub hx hb dL_isLevel_170 ?_
      refine lv_lload hx hb dL_isLevel_171 (lv_at hl 5 rfl) ?_
      refine lv_lsub hx hb dL_isLevel_173 ?_
      refine w_bne (tgt := 189) K dL_isLevel_174 dL_isLevel_175 (by decide) (fun c11 => ?_) (fun c11 => ?_)
      · have h0 := if_f c11 h0
        refine lv_iconst (v := 0) hx hb dL_isLevel_189 (by decide) ?_
        have h0 := Option.some.inj h0
        subst h0
        subst hQ
        refine w_int (y := b2i false) (by decide) ?_
        exact w_zret K hr0 X wC_fstx hsz (b2i_nar _) dL_isLevel_190
      · have h0 := if_t c11 h0
        refine lv_aload_n hx hb dL_isLevel_178 rfl (lv_at hl 1 rfl) ?_
        refine lv_iload_n hx hb dL_isLevel_179 rfl (lv_at hl 2 rfl) ?_
        refine lv_iconst (v := 4) hx hb dL_isLevel_180 (by decide) ?_
        obtain ⟨x12, ex12, h0⟩ := ob_out h0
        have kx12 := m_X7_account l D ca ar ag z 200 P G xs a2 4 x12 ex12 H.size
        refine z_callV K hZ X wC_fstx wC_fstx kx12 hl.1 2 q764 q765 q766 q16 q767 hv_X7_account ⟨⟨Nat.le_of_ble_eq_true rfl, Nat.le_of_ble_eq_true rfl⟩, rfl, rfl⟩ (z_recvw K X (pl_glb (k := 0) (by decide)) rfl rfl) rfl rfl (Nat.le_of_ble_eq_true rfl) dL_isLevel_181 ⟨Nat.le_of_ble_eq_true rfl, Nat.le_of_ble_eq_true rfl⟩ rfl (fun H locs X => ?_)
        refine lv_lconst (v := 0) hx hb dL_isLevel_184 (by decide) ?_
        refine w_bge (tgt := 191) K dL_isLevel_185 dL_isLevel_186 (by decide) (fun c13 => ?_) (fun c13 => ?_)
        · have h0 := if_t c13 h0
          refine lv_lload hx hb dL_isLevel_191 (lv_at hl 4 rfl) ?_
          refine lv_lload_n hx hb dL_isLevel_193 rfl (lv_at hl 3 rfl) ?_
          refine lv_lconst (v := 1) hx hb dL_isLevel_194 (by decide) ?_
          refine lv_ladd hx hb dL_isLevel_195 ?_
          refine lv_lmul hx hb dL_isLevel_196 ?_
          refine lv_lload hx hb dL_isLevel_197 (lv_at hl 6 rfl) ?_
          refine lv_ladd hx hb dL_isLevel_199 ?_
          refine lv_lload hx hb dL_isLevel_200 (lv_at hl 0 rfl) ?_
          refine w_ble (tgt := 229) K dL_isLevel_202 dL_isLevel_203 (by decide) (fun c14 => ?_) (fun c14 => ?_)
          · have h0 := if_t c14 h0
            refine lv_iconst (v := 0) hx hb dL_isLevel_229 (by decide) ?_
            have h0 := Option.some.inj h0
            subst h0
            subst hQ
            refine w_int (y := b2i false) (by decide) ?_
            exact w_zret K hr0 X wC_fstx hsz (b2i_nar _) dL_isLevel_230
          · have h0 := if_f c14 h0
            refine lv_lload hx hb dL_isLevel_206 (lv_at hl 0 rfl) ?_
            refine lv_aload_n hx hb dL_isLevel_208 rfl (lv_at hl 1 rfl) ?_
            refine lv_iload_n hx hb dL_isLevel_209 rfl (lv_at hl 2 rfl) ?_
            refine lv_iconst (v := 3) hx hb dL_isLevel_210 (by decide) ?_
            obtain ⟨x15, ex15, h0⟩ := ob_out h0
            have kx15 := m_X7_account l D ca ar ag z 200 P G xs a2 3 x15 ex15 H.size
            refine z_callV K hZ X wC_fstx wC_fstx kx15 hl.1 2 q764 q765 q766 q16 q767 hv_X7_account ⟨⟨Nat.le_of_ble_eq_true rfl, Nat.le_of_ble_eq_true rfl⟩, rfl, rfl⟩ (z_recvw K X (pl_glb (k := 0) (by decide)) rfl rfl) rfl rfl (Nat.le_of_ble_eq_true rfl) dL_isLevel_211 ⟨Nat.le_of_ble_eq_true rfl, Nat.le_of_ble_eq_true rfl⟩ rfl (fun H locs X => ?_)
            refine lv_aload_n hx hb dL_isLevel_214 rfl (lv_at hl 1 rfl) ?_
            refine lv_iload_n hx hb dL_isLevel_215 rfl (lv_at hl 2 rfl) ?_
            refine lv_iconst (v := 2) hx hb dL_isLevel_216 (by decide) ?_
            obtain ⟨x16, ex16, h0⟩ := ob_out h0
            have kx16 := m_X7_account l D ca ar ag z 200 P G xs a2 2 x16 ex16 H.size
            refine z_callV K hZ X wC_fstx wC_fstx kx16 hl.1 2 q764 q765 q766 q16 q767 hv_X7_account ⟨⟨Nat.le_of_ble_eq_true rfl, Nat.le_of_ble_eq_true rfl⟩, rfl, rfl⟩ (z_recvw K X (pl_glb (k := 0) (by decide)) rfl rfl) rfl rfl (Nat.le_of_ble_eq_true rfl) dL_isLevel_217 ⟨Nat.le_of_ble_eq_true rfl, Nat.le_of_ble_eq_true rfl⟩ rfl (fun H locs X => ?_)
            refine lv_lsub hx hb dL_isLevel_220 ?_
            refine w_bne (tgt := 229) K dL_isLevel_221 dL_isLevel_222 (by decide) (fun c17 => ?_) (fun c17 => ?_)
            · have h0 := if_f c17 h0
              refine lv_iconst (v := 0) hx hb dL_isLevel_229 (by decide) ?_
              have h0 := Option.some.inj h0
              subst h0
              subst hQ
              refine w_int (y := b2i false) (by decide) ?_
              exact w_zret K hr0 X wC_fstx hsz (b2i_nar _) dL_isLevel_230
            · have h0 := if_t c17 h0
              refine lv_iconst (v := 1) hx hb dL_isLevel_225 (by decide) ?_
              refine lv_goto (tgt := 230) hx hb dL_isLevel_226 (by decide) ?_
              have h0 := Option.some.inj h0
              subst h0
              subst hQ
              refine w_int (y := b2i true) (by decide) ?_
              exact w_zret K hr0 X wC_fstx hsz (b2i_nar _) dL_isLevel_230
        · have h0 := if_f c13 h0
          refine lv_iconst (v := 0) hx hb dL_isLevel_189 (by decide) ?_
          have h0 := Option.some.inj h0
          subst h0
          subst hQ
          refine w_int (y := b2i false) (by decide) ?_
          exact w_zret K hr0 X wC_fstx hsz (b2i_nar _) dL_isLevel_190
  refine lv_aload_n hx hb dL_isLevel_0 rfl (lv_at hl 0 rfl) ?_
  refine lv_iload_n hx hb dL_isLevel_1 rfl (lv_at hl 1 rfl) ?_
  refine lv_iconst (v := 3) hx hb dL_isLevel_2 (by decide) ?_
  obtain ⟨x1, ex1, h0⟩ := ob_out h0
  have kx1 := m_X7_leg l D ca ar ag z P G xs a2 3 x1 ex1 H.size
  refine z_callV K hZ X wC_fstx wC_fstx kx1 hl.1 2 q738 q739 q740 q16 q741 hv_X7_leg ⟨⟨Nat.le_of_ble_eq_true rfl, Nat.le_of_ble_eq_true rfl⟩, rfl, rfl⟩ (z_recvw K X (pl_glb (k := 0) (by decide)) rfl rfl) rfl rfl (Nat.le_of_ble_eq_true rfl) dL_isLevel_3 ⟨Nat.le_of_ble_eq_true rfl, Nat.le_of_ble_eq_true rfl⟩ rfl (fun H locs X => ?_)
  refine lv_i2l hx hb dL_isLevel_6 rfl ?_
  obtain ⟨x2, ex2, h0⟩ := lt_out h0
  refine w_long ex2 ?_
  refine lv_lstore_n (lv' := [(2, .long x2), (0, .ref (ag 0)), (1, .int a2)]) hx hb dL_isLevel_7 rfl hl (by decide) rfl (fun ls hl => ?_)
  refine lv_aload_n hx hb dL_isLevel_8 rfl (lv_at hl 1 rfl) ?_
  refine lv_iload_n hx hb dL_isLevel_9 rfl (lv_at hl 2 rfl) ?_
  refine lv_iconst (v := 1) hx hb dL_isLevel_10 (by decide) ?_
  obtain ⟨x3, ex3, h0⟩ := ob_out h0
  have kx3 := m_X7_leg l D ca ar ag z P G xs a2 1 x3 ex3 H.size
  refine z_callV K hZ X wC_fstx wC_fstx kx3 hl.1 2 q738 q739 q740 q16 q741 hv_X7_leg ⟨⟨Nat.le_of_ble_eq_true rfl, Nat.le_of_ble_eq_true rfl⟩, rfl, rfl⟩ (z_recvw K X (pl_glb (k := 0) (by decide)) rfl rfl) rfl rfl (Nat.le_of_ble_eq_true rfl) dL_isLevel_11 ⟨Nat.le_of_ble_eq_true rfl, Nat.le_of_ble_eq_true rfl⟩ rfl (fun H locs X => ?_)
  refine lv_i2l hx hb dL_isLevel_14 rfl ?_
  obtain ⟨x4, ex4, h0⟩ := lt_out h0
  refine w_long ex4 ?_
  refine lv_lstore (lv' := [(4, .long x4), (2, .long x2), (0, .ref (ag 0)), (1, .int a2)]) hx hb dL_isLevel_15 hl (by decide) rfl (fun ls hl => ?_)
  refine lv_lconst (v := 0) hx hb dL_isLevel_17 (by decide) ?_
  refine lv_lstore (lv' := [(6, .long 0), (4, .long x4), (2, .long x2), (0, .ref (ag 0)), (1, .int a2)]) hx hb dL_isLevel_18 hl (by decide) rfl (fun ls hl => ?_)
  refine lv_lconst (v := 0) hx hb dL_isLevel_20 (by decide) ?_
  refine lv_lstore (lv' := [(8, .long 0), (6, .long 0), (4, .long x4), (2, .long x2), (0, .ref (ag 0)), (1, .int a2)]) hx hb dL_isLevel_21 hl (by decide) rfl (fun ls hl => ?_)
  refine lv_iconst (v := 0) hx hb dL_isLevel_23 (by decide) ?_
  refine lv_istore (lv' := [(10, .int 0), (8, .long 0), (6, .long 0), (4, .long x4), (2, .long x2), (0, .ref (ag 0)), (1, .int a2)]) hx hb dL_isLevel_24 hl (by decide) rfl (fun ls hl => ?_)
  obtain ⟨e_1, he1, h0⟩ := ob_out h0
  have K26 : ∀ (k : Nat) (z26_6 : Int64) (z26_8 : Int64) (z26_10 : Int32) (H : Heap) (locs : List Loc) (X : RW D (wC ar ag ca P G ++ xs) s.heap H locs) (ls : Array Slot) (hl : lv_has ls 13 [(0, .ref (ag 0)), (1, .int a2), (2, .long x2), (4, .long x4), (6, .long z26_6), (8, .long z26_8), (10, .int z26_10)]) (hw : wloop (fun t => l_L_isLevel_26 P G a2 x2 t.1 t.2.1 t.2.2) k (z26_6, z26_8, z26_10) = some e_1), W p l e rm_L_isLevel s m args below meth c H locs 0 0 Q (F0 m 26 ls []) := by
    intro k
    induction k with
    | zero => intro z26_6 z26_8 z26_10 H locs X ls hl hw; exact (wloop_0 hw).elim
    | succ k ih1 =>
      intro z26_6 z26_8 z26_10 H locs X ls hl hw
      obtain ⟨x_1, h1, hx1⟩ := wloop_out hw
      have h1 : l_L_isLevel_26 P G a2 x2 z26_6 z26_8 z26_10 = some x_1 := h1
      unfold l_L_isLevel_26 at h1
      have J132 : ∀ (y132_l6 : Int64) (y132_l8 : Int64) (y132_l10 : Int32) (H : Heap) (locs : List Loc) (X : RW D (wC ar ag ca P G ++ xs) s.heap H locs) (ls : Array Slot) (hl : lv_has ls 13 [(0, .ref (ag 0)), (1, .int a2), (2, .long x2), (4, .long x4), (6, .long y132_l6), (8, .long y132_l8), (10, .int y132_l10)]) (h1 : b_L_isLevel_132 y132_l6 y132_l8 y132_l10 = some x_1), W p l e rm_L_isLevel s m args below meth c H locs 0 0 Q (F0 m 132 ls []) := by
        intro y132_l6 y132_l8 y132_l10 H locs X ls hl h1
        unfold b_L_isLevel_132 at h1
        obtain ⟨x20, ex20, h1⟩ := lt_out h1
        refine lv_iinc (v := x20) (lv' := [(10, .int x20), (0, .ref (ag 0)), (1, .int a2), (2, .long x2), (4, .long x4), (6, .long y132_l6), (8, .long y132_l8)]) hx hb dL_isLevel_132 hl (k := 6) rfl (by rw [ex20]; rfl) (by decide) rfl (fun ls hl => ?_)
        refine lv_goto (tgt := 26) hx hb dL_isLevel_135 (by decide) ?_
        exact ih1 y132_l6 y132_l8 x20 H locs X ls (lv_sub hl [1, 2, 3, 4, 5, 6, 0] rfl) (wl_l h1 hx1)
      refine lv_iload hx hb dL_isLevel_26 (lv_at hl 6 rfl) ?_
      refine lv_aload_n hx hb dL_isLevel_28 rfl (lv_at hl 0 rfl) ?_
      refine lv_iconst (v := 2) hx hb dL_isLevel_29 (by decide) ?_
      obtain ⟨x5, ex5, h1⟩ := ob_out h1
      have kx5 := m_X7_size l D ca ar ag z 200 P G xs 2 x5 ex5 H.size
      refine z_callV K hZ X wC_fstx wC_fstx kx5 hl.1 1 q680 q681 q682 q16 q683 hv_X7_size ⟨⟨Nat.le_of_ble_eq_true rfl, Nat.le_of_ble_eq_true rfl⟩, rfl, rfl⟩ (z_recvw K X (pl_glb (k := 0) (by decide)) rfl rfl) rfl rfl (Nat.le_of_ble_eq_true rfl) dL_isLevel_30 ⟨Nat.le_of_ble_eq_true rfl, Nat.le_of_ble_eq_true rfl⟩ rfl (fun H locs X => ?_)
      refine lv_icmp_ge (tgt := 138) hx hb dL_isLevel_33 (by decide) (fun c6 => ?_) (fun c6 => ?_)
      · have h1 := if_t c6 h1
        have q1 := wl_r h1 hx1
        exact J138 x2 x4 z26_6 z26_8 H locs X ls (lv_sub hl [0, 1, 2, 3, 4, 5] rfl) (by rw [q1] at h0; exact h0)
      · have h1 := if_f c6 h1
        refine lv_aload_n hx hb dL_isLevel_36 rfl (lv_at hl 0 rfl) ?_
        refine lv_iload hx hb dL_isLevel_37 (lv_at hl 6 rfl) ?_
        refine lv_iconst (v := 0) hx hb dL_isLevel_39 (by decide) ?_
        obtain ⟨x18, ex18, h1⟩ := ob_out h1
        have kx18 := m_X7_tube l D ca ar ag z P G xs z26_10 0 x18 ex18 H.size
        refine z_callV K hZ X wC_fstx wC_fstx kx18 hl.1 2 q710 q711 q712 q16 q713 hv_X7_tube ⟨⟨Nat.le_of_ble_eq_true rfl, Nat.le_of_ble_eq_true rfl⟩, rfl, rfl⟩ (z_recvw K X (pl_glb (k := 0) (by decide)) rfl rfl) rfl rfl (Nat.le_of_ble_eq_true rfl) dL_isLevel_40 ⟨Nat.le_of_ble_eq_true rfl, Nat.le_of_ble_eq_true rfl⟩ rfl (fun H locs X => ?_)
        refine lv_iload_n hx hb dL_isLevel_43 rfl (lv_at hl 1 rfl) ?_
        refine lv_icmp_ne (tgt := 132) hx hb dL_isLevel_44 (by decide) (fun c19 => ?_) (fun c19 => ?_)
        · have h1 := if_f c19 h1
          exact J132 z26_6 z26_8 z26_10 H locs X ls (lv_sub hl [0, 1, 2, 3, 4, 5, 6] rfl) h1
        · have h1 := if_t c19 h1
          refine lv_aload_n hx hb dL_isLevel_47 rfl (lv_at hl 0 rfl) ?_
          refine lv_iload hx hb dL_isLevel_48 (lv_at hl 6 rfl) ?_
          refine lv_bipush (v := 6) hx hb dL_isLevel_50 (by decide) ?_
          obtain ⟨x21, ex21, h1⟩ := ob_out h1
          have kx21 := m_X7_tube l D ca ar ag z P G xs z26_10 6 x21 ex21 H.size
          refine z_callV K hZ X wC_fstx wC_fstx kx21 hl.1 2 q710 q711 q712 q16 q713 hv_X7_tube ⟨⟨Nat.le_of_ble_eq_true rfl, Nat.le_of_ble_eq_true rfl⟩, rfl, rfl⟩ (z_recvw K X (pl_glb (k := 0) (by decide)) rfl rfl) rfl rfl (Nat.le_of_ble_eq_true rfl) dL_isLevel_52 ⟨Nat.le_of_ble_eq_true rfl, Nat.le_of_ble_eq_true rfl⟩ rfl (fun H locs X => ?_)
          refine lv_if_eq (tgt := 61) hx hb dL_isLevel_55 (by decide) (fun c22 => ?_) (fun c22 => ?_)
          · have h1 := if_t c22 h1
            refine lv_aload_n hx hb dL_isLevel_61 rfl (lv_at hl 0 rfl) ?_
            refine lv_iload hx hb dL_isLevel_62 (lv_at hl 6 rfl) ?_
            refine lv_iconst (v := 2) hx hb dL_isLevel_64 (by decide) ?_
            obtain ⟨x23, ex23, h1⟩ := ob_out h1
            have kx23 := m_X7_tube l D ca ar ag z P G xs z26_10 2 x23 ex23 H.size
            refine z_callV K hZ X wC_fstx wC_fstx kx23 hl.1 2 q710 q711 q712 q16 q713 hv_X7_tube ⟨⟨Nat.le_of_ble_eq_true rfl, Nat.le_of_ble_eq_true rfl⟩, rfl, rfl⟩ (z_recvw K X (pl_glb (k := 0) (by decide)) rfl rfl) rfl rfl (Nat.le_of_ble_eq_true rfl) dL_isLevel_65 ⟨Nat.le_of_ble_eq_true rfl, Nat.le_of_ble_eq_true rfl⟩ rfl (fun H locs X => ?_)
            refine lv_aload_n hx hb dL_isLevel_68 rfl (lv_at hl 0 rfl) ?_
            refine lv_iload hx hb dL_isLevel_69 (lv_at hl 6 rfl) ?_
            refine lv_iconst (v := 2) hx hb dL_isLevel_71 (by decide) ?_
            obtain ⟨x24, ex24, h1⟩ := ob_out h1
            have kx24 := m_X7_tube l D ca ar ag z P G xs z26_10 2 x24 ex24 H.size
            refine z_callV K hZ X wC_fstx wC_fstx kx24 hl.1 2 q710 q711 q712 q16 q713 hv_X7_tube ⟨⟨Nat.le_of_ble_eq_true rfl, Nat.le_of_ble_eq_true rfl⟩, rfl, rfl⟩ (z_recvw K X (pl_glb (k := 0) (by decide)) rfl rfl) rfl rfl (Nat.le_of_ble_eq_true rfl) dL_isLevel_72 ⟨Nat.le_of_ble_eq_true rfl, Nat.le_of_ble_eq_true rfl⟩ rfl (fun H locs X => ?_)
            refine lv_imul hx hb dL_isLevel_75 ?_
            refine lv_i2l hx hb dL_isLevel_76 rfl ?_
            obtain ⟨x25, ex25, h1⟩ := lt_out h1
            refine w_long ex25 ?_
            refine lv_lstore (lv' := [(11, .long x25), (0, .ref (ag 0)), (1, .int a2), (2, .long x2), (4, .long x4), (6, .long z26_6), (8, .long z26_8), (10, .int z26_10)]) hx hb dL_isLevel_77 hl (by decide) rfl (fun ls hl => ?_)
            refine lv_lload hx hb dL_isLevel_79 (lv_at hl 5 rfl) ?_
            refine lv_aload_n hx hb dL_isLevel_81 rfl (lv_at hl 1 rfl) ?_
            refine lv_iload hx hb dL_isLevel_82 (lv_at hl 7 rfl) ?_
            refine lv_bipush (v := 7) hx hb dL_isLevel_84 (by decide) ?_
            obtain ⟨x26, ex26, h1⟩ := ob_out h1
            have kx26 := m_X7_tube l D ca ar ag z P G xs z26_10 7 x26 ex26 H.size
            refine z_callV K hZ X wC_fstx wC_fstx kx26 hl.1 2 q710 q711 q712 q16 q713 hv_X7_tube ⟨⟨Nat.le_of_ble_eq_true rfl, Nat.le_of_ble_eq_true rfl⟩, rfl, rfl⟩ (z_recvw K X (pl_glb (k := 0) (by decide)) rfl rfl) rfl rfl (Nat.le_of_ble_eq_true rfl) dL_isLevel_86 ⟨Nat.le_of_ble_eq_true rfl, Nat.le_of_ble_eq_true rfl⟩ rfl (fun H locs X => ?_)
            refine lv_i2l hx hb dL_isLevel_89 rfl ?_
            refine lv_lload hx hb dL_isLevel_90 (lv_at hl 0 rfl) ?_
            refine lv_lmul hx hb dL_isLevel_92 ?_
            refine lv_ladd hx hb dL_isLevel_93 ?_
            obtain ⟨x27, ex27, h1⟩ := lt_out h1
            refine w_long ex27 ?_
            refine lv_lstore (lv' := [(6, .long x27), (11, .long x25), (0, .ref (ag 0)), (1, .int a2), (2, .long x2), (4, .long x4), (8, .long z26_8), (10, .int z26_10)]) hx hb dL_isLevel_94 hl (by decide) rfl (fun ls hl => ?_)
            refine lv_lload hx hb dL_isLevel_96 (lv_at hl 6 rfl) ?_
            refine lv_lconst (v := 0) hx hb dL_isLevel_98 (by decide) ?_
            refine lv_ldc2 hx hb K.2.2.2.1 (K.2.2.2.2.1 _ q761) dL_isLevel_99 ?_
            refine lv_aload_n hx hb dL_isLevel_102 rfl (lv_at hl 2 rfl) ?_
            refine lv_iload hx hb dL_isLevel_103 (lv_at hl 7 rfl) ?_
            refine lv_iconst (v := 4) hx hb dL_isLevel_105 (by decide) ?_
            obtain ⟨x28, ex28, h1⟩ := ob_out h1
            have kx28 := m_X7_tube l D ca ar ag z P G xs z26_10 4 x28 ex28 H.size
            refine z_callV K hZ X wC_fstx wC_fstx kx28 hl.1 2 q710 q711 q712 q16 q713 hv_X7_tube ⟨⟨Nat.le_of_ble_eq_true rfl, Nat.le_of_ble_eq_true rfl⟩, rfl, rfl⟩ (z_recvw K X (pl_glb (k := 0) (by decide)) rfl rfl) rfl rfl (Nat.le_of_ble_eq_true rfl) dL_isLevel_106 ⟨Nat.le_of_ble_eq_true rfl, Nat.le_of_ble_eq_true rfl⟩ rfl (fun H locs X => ?_)
            refine lv_i2l hx hb dL_isLevel_109 rfl ?_
            refine lv_lmul hx hb dL_isLevel_110 ?_
            refine lv_aload_n hx hb dL_isLevel_111 rfl (lv_at hl 2 rfl) ?_
            refine lv_iload hx hb dL_isLevel_112 (lv_at hl 7 rfl) ?_
            refine lv_lload_n hx hb dL_isLevel_114 rfl (lv_at hl 4 rfl) ?_
            refine lv_lconst (v := 1) hx hb dL_isLevel_115 (by decide) ?_
            refine lv_ladd hx hb dL_isLevel_116 ?_
            obtain ⟨x29, ex29, h1⟩ := ob_out h1
            have kx29 := m_L_run l D ca ar ag z P G xs z26_10 (x2 + 1) x29 ex29 H.size
            refine z_callS K hZ X wC_fstx wC_fstx kx29 hl.1 3 q748 q749 q15 q750 hs_L_run ⟨⟨Nat.le_of_ble_eq_true rfl, Nat.le_of_ble_eq_true rfl⟩, rfl, rfl⟩ rfl rfl (Nat.le_of_ble_eq_true rfl) dL_isLevel_117 ⟨Nat.le_of_ble_eq_true rfl, Nat.le_of_ble_eq_true rfl⟩ rfl (fun H locs X => ?_)
            refine w_mminl K hl.1 q762 q657 q32 q658 (Nat.le_of_ble_eq_true rfl) (Nat.le_of_ble_eq_true rfl) (Nat.le_of_ble_eq_true rfl) (Nat.le_of_ble_eq_true rfl) dL_isLevel_120 ?_
            refine w_mmaxl K hl.1 q763 q660 q32 q661 (Nat.le_of_ble_eq_true rfl) (Nat.le_of_ble_eq_true rfl) (Nat.le_of_ble_eq_true rfl) (Nat.le_of_ble_eq_true rfl) dL_isLevel_123 ?_
            refine lv_lload hx hb dL_isLevel_126 (lv_at hl 1 rfl) ?_
            refine lv_lmul hx hb dL_isLevel_128 ?_
            refine lv_ladd hx hb dL_isLevel_129 ?_
            obtain ⟨x30, ex30, h1⟩ := lt_out h1
            refine w_long ex30 ?_
            refine lv_lstore (lv' := [(8, .long x30), (6, .long x27), (11, .long x25), (0, .ref (ag 0)), (1, .int a2), (2, .long x2), (4, .long x4), (10, .int z26_10)]) hx hb dL_isLevel_130 hl (by decide) rfl (fun ls hl => ?_)
            exact J132 x27 x30 z26_10 H locs X ls (lv_sub hl [3, 4, 5, 6, 1, 0, 7] rfl) h1
          · have h1 := if_f c22 h1
            refine lv_goto (tgt := 132) hx hb dL_isLevel_58 (by decide) ?_
            exact J132 z26_6 z26_8 z26_10 H locs X ls (lv_sub hl [0, 1, 2, 3, 4, 5, 6] rfl) h1
  exact K26 200 0 0 0 H locs X ls (lv_sub hl [5, 6, 4, 3, 2, 1, 0] rfl) he1
-- L_acts
def f_L_acts (P : RowsS) (G : GlbS) (a2 : Int32) : Option (Int32 × RowsS × GlbS) :=
  lt (a2 / 12) fun x1 =>
  ob (f_X7_size 200 P G 2) fun x2 =>
  if (a2 - a2 / 12 * 12) = 0 then
    ob (f_X7_size 200 P G 0) fun x4 =>
    if ¬ x4 = 0 then
      ob (f_X7_setPressure 200 P G (x1 - x1 / x4 * x4) (48000 + ((x1 / 8) - (x1 / 8) / 2500 * 2500))) fun x6 =>
      lt (x6.2.1) fun Pv7 =>
      lt (x6.2.2) fun Gv8 =>
      some (x6.1, Pv7, Gv8)
    else none
  else if (a2 - a2 / 12 * 12) = 1 then
    ob (f_X7_size 200 P G 0) fun x10 =>
    if ¬ x10 = 0 then
      ob (f_X7_setPressure 200 P G (x1 - x1 / x10 * x10) (48000 + ((x1 / 8) - (x1 / 8) / 2500 * 2500))) fun x12 =>
      lt (x12.2.1) fun Pv13 =>
      lt (x12.2.2) fun Gv14 =>
      some (x12.1, Pv13, Gv14)
    else none
  else if (a2 - a2 / 12 * 12) = 2 then
    ob (f_X7_setReference 200 P G (49000 + (x1 - x1 / 2000 * 2000))) fun x16 =>
    lt (x16.2.1) fun Pv17 =>
    lt (x16.2.2) fun Gv18 =>
    some (x16.1, Pv17, Gv18)
  else if (a2 - a2 / 12 * 12) = 3 then
    ob (f_X7_size 200 P G 0) fun x20 =>
    if ¬ x20 = 0 then
      ob (f_X7_sweep 200 P G (x1 - x1 / x20 * x20) (48500 + ((x1 / 8) - (x1 / 8) / 2000 * 2000)) (1 + (x1 - x1 / 9 * 9))) fun x22 =>
      lt (x22.2.1) fun Pv23 =>
      lt (x22.2.2) fun Gv24 =>
      some (x22.1, Pv23, Gv24)
    else none
  else if (a2 - a2 / 12 * 12) = 4 then
    if x2 = 0 then
      some ((-9), P, G)
    else
      ob (f_X7_setSlant 200 P G (x1 - x1 / x2 * x2) (50 + ((x1 / 16) - (x1 / 16) / 951 * 951))) fun x27 =>
      lt (x27.2.1) fun Pv28 =>
      lt (x27.2.2) fun Gv29 =>
      some (x27.1, Pv28, Gv29)
  else if (a2 - a2 / 12 * 12) = 5 then
    if x2 = 0 then
      some ((-9), P, G)
    else
      ob (f_X7_setMark 200 P G (x1 - x1 / x2 * x2)) fun x32 =>
      lt (x32.2.1) fun Pv33 =>
      lt (x32.2.2) fun Gv34 =>
      if (-1000000000) < x32.1 then
        some (1, Pv33, Gv34)
      else
        some ((-8), Pv33, Gv34)
  else if (a2 - a2 / 12 * 12) = 6 then
    ob (f_X7_setCurve 200 P G (x1 - x1 / 2 * 2) (((x1 / 2) - (x1 / 2) / 2001 * 2001) - 1000)) fun x37 =>
    lt (x37.2.1) fun Pv38 =>
    lt (x37.2.2) fun Gv39 =>
    some (x37.1, Pv38, Gv39)
  else if (a2 - a2 / 12 * 12) = 7 then
    if x2 = 0 then
      some ((-9), P, G)
    else
      ob (f_X7_mend 200 P G (x1 - x1 / x2 * x2)) fun x42 =>
      lt (x42.2.1) fun Pv43 =>
      lt (x42.2.2) fun Gv44 =>
      some (x42.1, Pv43, Gv44)
  else if (a2 - a2 / 12 * 12) = 8 then
    ob (f_X7_refill 200 P G (x1 - x1 / 2 * 2) (1 + ((x1 / 2) - (x1 / 2) / 40000000 * 40000000))) fun x46 =>
    lt (x46.2.1) fun Pv47 =>
    lt (x46.2.2) fun Gv48 =>
    some (x46.1, Pv47, Gv48)
  else if (a2 - a2 / 12 * 12) = 9 then
    ob (f_X7_refill 200 P G (x1 - x1 / 2 * 2) (1 + ((x1 / 2) - (x1 / 2) / 40000000 * 40000000))) fun x50 =>
    lt (x50.2.1) fun Pv51 =>
    lt (x50.2.2) fun Gv52 =>
    some (x50.1, Pv51, Gv52)
  else if (a2 - a2 / 12 * 12) = 10 then
    ob (f_X7_size 200 P G 0) fun x54 =>
    if ¬ x54 = 0 then
      ob (f_X7_addTube 200 P G (x1 - x1 / 2 * 2) ((x1 / 2) - (x1 / 2) / x54 * x54) (1 + ((x1 / 16) - (x1 / 16) / 10 * 10)) (50 + ((x1 / 160) - (x1 / 160) / 951 * 951)) (100 + ((x1 / 300) - (x1 / 300) / 1900 * 1900))) fun x56 =>
      lt (x56.2.1) fun Pv57 =>
      lt (x56.2.2) fun Gv58 =>
      some (x56.1, Pv57, Gv58)
    else none
  else if x2 = 0 then
    some ((-9), P, G)
  else
    ob (f_X7_dropTube 200 P G (x1 - x1 / x2 * x2)) fun x60 =>
    lt (x60.2.1) fun Pv61 =>
    lt (x60.2.2) fun Gv62 =>
    some (x60.1, Pv61, Gv62)
abbrev rm_L_acts : Room := { frames := 7, cells := 0, slots := 0, locals := 192 }
set_option maxRecDepth 100000 in
set_option maxHeartbeats 4000000 in
theorem m_L_acts (l : Launch) (D : va_G) (ca : Nat → ClassId) (ar : Nat → Nat → Nat) (ag : Nat → Nat) (z : ZG) (P : RowsS) (G : GlbS) (xs : va_W) (a2 : Int32) (res : Int32) (P' : RowsS) (G' : GlbS) (h0 : f_L_acts P G a2 = some (res, P', G')) (sz : Nat) : Met l yL_acts (ws_ yL_acts cL_acts 4 (some .int)) rm_L_acts (PCz z D ca (wC ar ag ca P G ++ xs) sz [.ref (ag 0), .int a2]) (QMw D (wC ar ag ca P G ++ xs) (wC ar ag ca (P') (G') ++ xs) sz (some (.int res))) 0 0 (AL (wC ar ag ca P G ++ xs) sz) := by
  refine met_z (by decide +kernel) (Nat.le_of_ble_eq_true rfl) (fun p e s m args below meth c K hr0 hZ X hsz ls hl => ?_)
  have K : MC D ca p s m args meth c cL_acts 4 RL := K
  have hx := K.1
  have hb := K.2.1
  have hl : lv_has ls 4 [(0, .ref (ag 0)), (1, .int a2)] := hl
  generalize hQ : MQ below _ args s 0 0 _ = Q
  unfold f_L_acts at h0
  suffices Z : ∀ (H : Heap) (locs : List Loc) (X : RW D (wC ar ag ca P G ++ xs) s.heap H locs), W p l e rm_L_acts s m args below meth c H locs 0 0 Q (F0 m 0 ls []) from Z _ _ X
  intro H locs X
  refine lv_iload_n hx hb dL_acts_0 rfl (lv_at hl 1 rfl) ?_
  refine lv_bipush (v := 12) hx hb dL_acts_1 (by decide) ?_
  refine lv_idiv hx hb dL_acts_3 (by decide) ?_
  obtain ⟨x1, ex1, h0⟩ := lt_out h0
  refine w_int ex1 ?_
  refine lv_istore_n (lv' := [(2, .int x1), (0, .ref (ag 0)), (1, .int a2)]) hx hb dL_acts_4 rfl hl (by decide) rfl (fun ls hl => ?_)
  refine lv_aload_n hx hb dL_acts_5 rfl (lv_at hl 1 rfl) ?_
  refine lv_iconst (v := 2) hx hb dL_acts_6 (by decide) ?_
  obtain ⟨x2, ex2, h0⟩ := ob_out h0
  have kx2 := m_X7_size l D ca ar ag z 200 P G xs 2 x2 ex2 H.size
  refine z_callV K hZ X wC_fstx wC_fstx kx2 hl.1 1 q680 q681 q682 q16 q683 hv_X7_size ⟨⟨Nat.le_of_ble_eq_true rfl, Nat.le_of_ble_eq_true rfl⟩, rfl, rfl⟩ (z_recvw K X (pl_glb (k := 0) (by decide)) rfl rfl) rfl rfl (Nat.le_of_ble_eq_true rfl) dL_acts_7 ⟨Nat.le_of_ble_eq_true rfl, Nat.le_of_ble_eq_true rfl⟩ rfl (fun H locs X => ?_)
  refine lv_istore_n (lv' := [(3, .int x2), (2, .int x1), (0, .ref (ag 0)), (1, .int a2)]) hx hb dL_acts_10 rfl hl (by decide) rfl (fun ls hl => ?_)
  refine lv_iload_n hx hb dL_acts_11 rfl (lv_at hl 3 rfl) ?_
  refine lv_bipush (v := 12) hx hb dL_acts_12 (by decide) ?_
  refine lv_irem hx hb dL_acts_14 (by decide) ?_
  by_cases c3 : a2 - a2 / 12 * 12 = 0
  · have h0 := if_t c3 h0
    refine lv_tableIn (off := 57) (tgt := 72) hx hb dL_acts_15 (by rw [c3]; decide) (by rw [c3]; decide) (by rw [c3]; decide) (by decide) ?_
    refine lv_aload_n hx hb dL_acts_72 rfl (lv_at hl 2 rfl) ?_
    refine lv_iload_n hx hb dL_acts_73 rfl (lv_at hl 1 rfl) ?_
    refine lv_aload_n hx hb dL_acts_74 rfl (lv_at hl 2 rfl) ?_
    refine lv_iconst (v := 0) hx hb dL_acts_75 (by decide) ?_
    obtain ⟨x4, ex4, h0⟩ := ob_out h0
    have kx4 := m_X7_size l D ca ar ag z 200 P G xs 0 x4 ex4 H.size
    refine z_callV K hZ X wC_fstx wC_fstx kx4 hl.1 1 q680 q681 q682 q16 q683 hv_X7_size ⟨⟨Nat.le_of_ble_eq_true rfl, Nat.le_of_ble_eq_true rfl⟩, rfl, rfl⟩ (z_recvw K X (pl_glb (k := 0) (by decide)) rfl rfl) rfl rfl (Nat.le_of_ble_eq_true rfl) dL_acts_76 ⟨Nat.le_of_ble_eq_true rfl, Nat.le_of_ble_eq_true rfl⟩ rfl (fun H locs X => ?_)
    obtain ⟨c5, h0⟩ := if_o h0
    refine lv_irem hx hb dL_acts_79 c5 ?_
    refine lv_ldc hx hb K.2.2.2.1 (K.2.2.2.2.1 _ q773) dL_acts_80 ?_
    refine lv_iload_n hx hb dL_acts_82 rfl (lv_at hl 1 rfl) ?_
    refine lv_bipush (v := 8) hx hb dL_acts_83 (by decide) ?_
    refine lv_idiv hx hb dL_acts_85 (by decide) ?_
    refine lv_sipush (v := 2500) hx hb dL_acts_86 (by decide) ?_
    refine lv_irem hx hb dL_acts_89 (by decide) ?_
    refine lv_iadd hx hb dL_acts_90 ?_
    obtain ⟨x6, ex6, h0⟩ := ob_out h0
    obtain ⟨Pv7, ePv7, h0⟩ := lt_out h0
    obtain ⟨Gv8, eGv8, h0⟩ := lt_out h0
    have kx6 := m_X7_setPressure l D ca ar ag z 200 P G xs (x1 - x1 / x4 * x4) (48000 + ((x1 / 8) - (x1 / 8) / 2500 * 2500)) x6.1 x6.2.1 x6.2.2 ex6 H.size
    rw [← ePv7, ← eGv8] at kx6
    refine z_callV K hZ X wC_fstx wC_fstx kx6 hl.1 2 q774 q775 q776 q16 q777 hv_X7_setPressure ⟨⟨Nat.le_of_ble_eq_true rfl, Nat.le_of_ble_eq_true rfl⟩, rfl, rfl⟩ (z_recvw K X (pl_glb (k := 0) (by decide)) rfl rfl) rfl rfl (Nat.le_of_ble_eq_true rfl) dL_acts_91 ⟨Nat.le_of_ble_eq_true rfl, Nat.le_of_ble_eq_true rfl⟩ rfl (fun H locs X => ?_)
    have h0 := Option.some.inj h0
    obtain ⟨q_0, h0⟩ := Prod.mk.inj h0
    obtain ⟨q_1, q_2⟩ := Prod.mk.inj h0
    subst q_0
    subst q_1
    subst q_2
    subst hQ
    exact w_iret K hr0 X wC_fstx hsz dL_acts_94
  have h0 := if_f c3 h0
  by_cases c9 : a2 - a2 / 12 * 12 = 1
  · have h0 := if_t c9 h0
    refine lv_tableIn (off := 57) (tgt := 72) hx hb dL_acts_15 (by rw [c9]; decide) (by rw [c9]; decide) (by rw [c9]; decide) (by decide) ?_
    refine lv_aload_n hx hb dL_acts_72 rfl (lv_at hl 2 rfl) ?_
    refine lv_iload_n hx hb dL_acts_73 rfl (lv_at hl 1 rfl) ?_
    refine lv_aload_n hx hb dL_acts_74 rfl (lv_at hl 2 rfl) ?_
    refine lv_iconst (v := 0) hx hb dL_acts_75 (by decide) ?_
    obtain ⟨x10, ex10, h0⟩ := ob_out h0
    have kx10 := m_X7_size l D ca ar ag z 200 P G xs 0 x10 ex10 H.size
    refine z_callV K hZ X wC_fstx wC_fstx kx10 hl.1 1 q680 q681 q682 q16 q683 hv_X7_size ⟨⟨Nat.le_of_ble_eq_true rfl, Nat.le_of_ble_eq_true rfl⟩, rfl, rfl⟩ (z_recvw K X (pl_glb (k := 0) (by decide)) rfl rfl) rfl rfl (Nat.le_of_ble_eq_true rfl) dL_acts_76 ⟨Nat.le_of_ble_eq_true rfl, Nat.le_of_ble_eq_true rfl⟩ rfl (fun H locs X => ?_)
    obtain ⟨c11, h0⟩ := if_o h0
    refine lv_irem hx hb dL_acts_79 c11 ?_
    refine lv_ldc hx hb K.2.2.2.1 (K.2.2.2.2.1 _ q773) dL_acts_80 ?_
    refine lv_iload_n hx hb dL_acts_82 rfl (lv_at hl 1 rfl) ?_
    refine lv_bipush (v := 8) hx hb dL_acts_83 (by decide) ?_
    refine lv_idiv hx hb dL_acts_85 (by decide) ?_
    refine lv_sipush (v := 2500) hx hb dL_acts_86 (by decide) ?_
    refine lv_irem hx hb dL_acts_89 (by decide) ?_
    refine lv_iadd hx hb dL_acts_90 ?_
    obtain ⟨x12, ex12, h0⟩ := ob_out h0
    obtain ⟨Pv13, ePv13, h0⟩ := lt_out h0
    obtain ⟨Gv14, eGv14, h0⟩ := lt_out h0
    have kx12 := m_X7_setPressure l D ca ar ag z 200 P G xs (x1 - x1 / x10 * x10) (48000 + ((x1 / 8) - (x1 / 8) / 2500 * 2500)) x12.1 x12.2.1 x12.2.2 ex12 H.size
    rw [← ePv13, ← eGv14] at kx12
    refine z_callV K hZ X wC_fstx wC_fstx kx12 hl.1 2 q774 q775 q776 q16 q777 hv_X7_setPressure ⟨⟨Nat.le_of_ble_eq_true rfl, Nat.le_of_ble_eq_true rfl⟩, rfl, rfl⟩ (z_recvw K X (pl_glb (k := 0) (by decide)) rfl rfl) rfl rfl (Nat.le_of_ble_eq_true rfl) dL_acts_91 ⟨Nat.le_of_ble_eq_true rfl, Nat.le_of_ble_eq_true rfl⟩ rfl (fun H locs X => ?_)
    have h0 := Option.some.inj h0
    obtain ⟨q_0, h0⟩ := Prod.mk.inj h0
    obtain ⟨q_1, q_2⟩ := Prod.mk.inj h0
    subst q_0
    subst q_1
    subst q_2
    subst hQ
    exact w_iret K hr0 X wC_fstx hsz dL_acts_94
  have h0 := if_f c9 h0
  by_cases c15 : a2 - a2 / 12 * 12 = 2
  · have h0 := if_t c15 h0
    refine lv_tableIn (off := 80) (tgt := 95) hx hb dL_acts_15 (by rw [c15]; decide) (by rw [c15]; decide) (by rw [c15]; decide) (by decide) ?_
    refine lv_aload_n hx hb dL_acts_95 rfl (lv_at hl 2 rfl) ?_
    refine lv_ldc hx hb K.2.2.2.1 (K.2.2.2.2.1 _ q788) dL_acts_96 ?_
    refine lv_iload_n hx hb dL_acts_98 rfl (lv_at hl 1 rfl) ?_
    refine lv_sipush (v := 2000) hx hb dL_acts_99 (by decide) ?_
    refine lv_irem hx hb dL_acts_102 (by decide) ?_
    refine lv_iadd hx hb dL_acts_103 ?_
    obtain ⟨x16, ex16, h0⟩ := ob_out h0
    obtain ⟨Pv17, ePv17, h0⟩ := lt_out h0
    obtain ⟨Gv18, eGv18, h0⟩ := lt_out h0
    have kx16 := m_X7_setReference l D ca ar ag z 200 P G xs (49000 + (x1 - x1 / 2000 * 2000)) x16.1 x16.2.1 x16.2.2 ex16 H.size
    rw [← ePv17, ← eGv18] at kx16
    refine z_callV K hZ X wC_fstx wC_fstx kx16 hl.1 1 q789 q790 q791 q16 q792 hv_X7_setReference ⟨⟨Nat.le_of_ble_eq_true rfl, Nat.le_of_ble_eq_true rfl⟩, rfl, rfl⟩ (z_recvw K X (pl_glb (k := 0) (by decide)) rfl rfl) rfl rfl (Nat.le_of_ble_eq_true rfl) dL_acts_104 ⟨Nat.le_of_ble_eq_true rfl, Nat.le_of_ble_eq_true rfl⟩ rfl (fun H locs X => ?_)
    have h0 := Option.some.inj h0
    obtain ⟨q_0, h0⟩ := Prod.mk.inj h0
    obtain ⟨q_1, q_2⟩ := Prod.mk.inj h0
    subst q_0
    subst q_1
    subst q_2
    subst hQ
    exact w_iret K hr0 X wC_fstx hsz dL_acts_107
  have h0 := if_f c15 h0
  by_cases c19 : a2 - a2 / 12 * 12 = 3
  · have h0 := if_t c19 h0
    refine lv_tableIn (off := 93) (tgt := 108) hx hb dL_acts_15 (by rw [c19]; decide) (by rw [c19]; decide) (by rw [c19]; decide) (by decide) ?_
    refine lv_aload_n hx hb dL_acts_108 rfl (lv_at hl 2 rfl) ?_
    refine lv_iload_n hx hb dL_acts_109 rfl (lv_at hl 1 rfl) ?_
    refine lv_aload_n hx hb dL_acts_110 rfl (lv_at hl 2 rfl) ?_
    refine lv_iconst (v := 0) hx hb dL_acts_111 (by decide) ?_
    obtain ⟨x20, ex20, h0⟩ := ob_out h0
    have kx20 := m_X7_size l D ca ar ag z 200 P G xs 0 x20 ex20 H.size
    refine z_callV K hZ X wC_fstx wC_fstx kx20 hl.1 1 q680 q681 q682 q16 q683 hv_X7_size ⟨⟨Nat.le_of_ble_eq_true rfl, Nat.le_of_ble_eq_true rfl⟩, rfl, rfl⟩ (z_recvw K X (pl_glb (k := 0) (by decide)) rfl rfl) rfl rfl (Nat.le_of_ble_eq_true rfl) dL_acts_112 ⟨Nat.le_of_ble_eq_true rfl, Nat.le_of_ble_eq_true rfl⟩ rfl (fun H locs X => ?_)
    obtain ⟨c21, h0⟩ := if_o h0
    refine lv_irem hx hb dL_acts_115 c21 ?_
    refine lv_ldc hx hb K.2.2.2.1 (K.2.2.2.2.1 _ q793) dL_acts_116 ?_
    refine lv_iload_n hx hb dL_acts_118 rfl (lv_at hl 1 rfl) ?_
    refine lv_bipush (v := 8) hx hb dL_acts_119 (by decide) ?_
    refine lv_idiv hx hb dL_acts_121 (by decide) ?_
    refine lv_sipush (v := 2000) hx hb dL_acts_122 (by decide) ?_
    refine lv_irem hx hb dL_acts_125 (by decide) ?_
    refine lv_iadd hx hb dL_acts_126 ?_
    refine lv_iconst (v := 1) hx hb dL_acts_127 (by decide) ?_
    refine lv_iload_n hx hb dL_acts_128 rfl (lv_at hl 1 rfl) ?_
    refine lv_bipush (v := 9) hx hb dL_acts_129 (by decide) ?_
    refine lv_irem hx hb dL_acts_131 (by decide) ?_
    refine lv_iadd hx hb dL_acts_132 ?_
    obtain ⟨x22, ex22, h0⟩ := ob_out h0
    obtain ⟨Pv23, ePv23, h0⟩ := lt_out h0
    obtain ⟨Gv24, eGv24, h0⟩ := lt_out h0
    have kx22 := m_X7_sweep l D ca ar ag z 200 P G xs (x1 - x1 / x20 * x20) (48500 + ((x1 / 8) - (x1 / 8) / 2000 * 2000)) (1 + (x1 - x1 / 9 * 9)) x22.1 x22.2.1 x22.2.2 ex22 H.size
    rw [← ePv23, ← eGv24] at kx22
    refine z_callV K hZ X wC_fstx wC_fstx kx22 hl.1 3 q794 q795 q796 q16 q797 hv_X7_sweep ⟨⟨Nat.le_of_ble_eq_true rfl, Nat.le_of_ble_eq_true rfl⟩, rfl, rfl⟩ (z_recvw K X (pl_glb (k := 0) (by decide)) rfl rfl) rfl rfl (Nat.le_of_ble_eq_true rfl) dL_acts_133 ⟨Nat.le_of_ble_eq_true rfl, Nat.le_of_ble_eq_true rfl⟩ rfl (fun H locs X => ?_)
    have h0 := Option.some.inj h0
    obtain ⟨q_0, h0⟩ := Prod.mk.inj h0
    obtain ⟨q_1, q_2⟩ := Prod.mk.inj h0
    subst q_0
    subst q_1
    subst q_2
    subst hQ
    exact w_iret K hr0 X wC_fstx hsz dL_acts_136
  have h0 := if_f c19 h0
  by_cases c25 : a2 - a2 / 12 * 12 = 4
  · have h0 := if_t c25 h0
    refine lv_tableIn (off := 122) (tgt := 137) hx hb dL_acts_15 (by rw [c25]; decide) (by rw [c25]; decide) (by rw [c25]; decide) (by decide) ?_
    refine lv_iload_n hx hb dL_acts_137 rfl (lv_at hl 0 rfl) ?_
    refine lv_if_ne (tgt := 146) hx hb dL_acts_138 (by decide) (fun c26 => ?_) (fun c26 => ?_)
    · have h0 := if_f c26 h0
      refine lv_aload_n hx hb dL_acts_146 rfl (lv_at hl 2 rfl) ?_
      refine lv_iload_n hx hb dL_acts_147 rfl (lv_at hl 1 rfl) ?_
      refine lv_iload_n hx hb dL_acts_148 rfl (lv_at hl 0 rfl) ?_
      refine lv_irem hx hb dL_acts_149 c26 ?_
      refine lv_bipush (v := 50) hx hb dL_acts_150 (by decide) ?_
      refine lv_iload_n hx hb dL_acts_152 rfl (lv_at hl 1 rfl) ?_
      refine lv_bipush (v := 16) hx hb dL_acts_153 (by decide) ?_
      refine lv_idiv hx hb dL_acts_155 (by decide) ?_
      refine lv_sipush (v := 951) hx hb dL_acts_156 (by decide) ?_
      refine lv_irem hx hb dL_acts_159 (by decide) ?_
      refine lv_iadd hx hb dL_acts_160 ?_
      obtain ⟨x27, ex27, h0⟩ := ob_out h0
      obtain ⟨Pv28, ePv28, h0⟩ := lt_out h0
      obtain ⟨Gv29, eGv29, h0⟩ := lt_out h0
      have kx27 := m_X7_setSlant l D ca ar ag z 200 P G xs (x1 - x1 / x2 * x2) (50 + ((x1 / 16) - (x1 / 16) / 951 * 951)) x27.1 x27.2.1 x27.2.2 ex27 H.size
      rw [← ePv28, ← eGv29] at kx27
      refine z_callV K hZ X wC_fstx wC_fstx kx27 hl.1 2 q798 q799 q800 q16 q801 hv_X7_setSlant ⟨⟨Nat.le_of_ble_eq_true rfl, Nat.le_of_ble_eq_true rfl⟩, rfl, rfl⟩ (z_recvw K X (pl_glb (k := 0) (by decide)) rfl rfl) rfl rfl (Nat.le_of_ble_eq_true rfl) dL_acts_161 ⟨Nat.le_of_ble_eq_true rfl, Nat.le_of_ble_eq_true rfl⟩ rfl (fun H locs X => ?_)
      have h0 := Option.some.inj h0
      obtain ⟨q_0, h0⟩ := Prod.mk.inj h0
      obtain ⟨q_1, q_2⟩ := Prod.mk.inj h0
      subst q_0
      subst q_1
      subst q_2
      subst hQ
      exact w_iret K hr0 X wC_fstx hsz dL_acts_164
    · have h0 := if_t c26 h0
      refine lv_bipush (v := (-9)) hx hb dL_acts_141 (by decide) ?_
      refine lv_goto (tgt := 164) hx hb dL_acts_143 (by decide) ?_
      have h0 := Option.some.inj h0
      obtain ⟨q_0, h0⟩ := Prod.mk.inj h0
      obtain ⟨q_1, q_2⟩ := Prod.mk.inj h0
      subst q_0
      subst q_1
      subst q_2
      subst hQ
      exact w_iret K hr0 X wC_fstx hsz dL_acts_164
  have h0 := if_f c25 h0
  by_cases c30 : a2 - a2 / 12 * 12 = 5
  · have h0 := if_t c30 h0
    refine lv_tableIn (off := 150) (tgt := 165) hx hb dL_acts_15 (by rw [c30]; decide) (by rw [c30]; decide) (by rw [c30]; decide) (by decide) ?_
    refine lv_iload_n hx hb dL_acts_165 rfl (lv_at hl 0 rfl) ?_
    refine lv_if_ne (tgt := 174) hx hb dL_acts_166 (by decide) (fun c31 => ?_) (fun c31 => ?_)
    · have h0 := if_f c31 h0
      refine lv_aload_n hx hb dL_acts_174 rfl (lv_at hl 2 rfl) ?_
      refine lv_iload_n hx hb dL_acts_175 rfl (lv_at hl 1 rfl) ?_
      refine lv_iload_n hx hb dL_acts_176 rfl (lv_at hl 0 rfl) ?_
      refine lv_irem hx hb dL_acts_177 c31 ?_
      obtain ⟨x32, ex32, h0⟩ := ob_out h0
      obtain ⟨Pv33, ePv33, h0⟩ := lt_out h0
      obtain ⟨Gv34, eGv34, h0⟩ := lt_out h0
      have kx32 := m_X7_setMark l D ca ar ag z 200 P G xs (x1 - x1 / x2 * x2) x32.1 x32.2.1 x32.2.2 ex32 H.size
      rw [← ePv33, ← eGv34] at kx32
      refine z_callV K hZ X wC_fstx wC_fstx kx32 hl.1 1 q802 q803 q804 q16 q805 hv_X7_setMark ⟨⟨Nat.le_of_ble_eq_true rfl, Nat.le_of_ble_eq_true rfl⟩, rfl, rfl⟩ (z_recvw K X (pl_glb (k := 0) (by decide)) rfl rfl) rfl rfl (Nat.le_of_ble_eq_true rfl) dL_acts_178 ⟨Nat.le_of_ble_eq_true rfl, Nat.le_of_ble_eq_true rfl⟩ rfl (fun H locs X => ?_)
      refine lv_ldc hx hb K.2.2.2.1 (K.2.2.2.2.1 _ q808) dL_acts_181 ?_
      refine lv_icmp_gt (tgt := 191) hx hb dL_acts_183 (by decide) (fun c35 => ?_) (fun c35 => ?_)
      · have h0 := if_t c35 h0
        refine lv_iconst (v := 1) hx hb dL_acts_191 (by decide) ?_
        have h0 := Option.some.inj h0
        obtain ⟨q_0, h0⟩ := Prod.mk.inj h0
        obtain ⟨q_1, q_2⟩ := Prod.mk.inj h0
        subst q_0
        subst q_1
        subst q_2
        subst hQ
        exact w_iret K hr0 X wC_fstx hsz dL_acts_192
      · have h0 := if_f c35 h0
        refine lv_bipush (v := (-8)) hx hb dL_acts_186 (by decide) ?_
        refine lv_goto (tgt := 192) hx hb dL_acts_188 (by decide) ?_
        have h0 := Option.some.inj h0
        obtain ⟨q_0, h0⟩ := Prod.mk.inj h0
        obtain ⟨q_1, q_2⟩ := Prod.mk.inj h0
        subst q_0
        subst q_1
        subst q_2
        subst hQ
        exact w_iret K hr0 X wC_fstx hsz dL_acts_192
    · have h0 := if_t c31 h0
      refine lv_bipush (v := (-9)) hx hb dL_acts_169 (by decide) ?_
      refine lv_goto (tgt := 192) hx hb dL_acts_171 (by decide) ?_
      have h0 := Option.some.inj h0
      obtain ⟨q_0, h0⟩ := Prod.mk.inj h0
      obtain ⟨q_1, q_2⟩ := Prod.mk.inj h0
      subst q_0
      subst q_1
      subst q_2
      subst hQ
      exact w_iret K hr0 X wC_fstx hsz dL_acts_192
  have h0 := if_f c30 h0
  by_cases c36 : a2 - a2 / 12 * 12 = 6
  · have h0 := if_t c36 h0
    refine lv_tableIn (off := 178) (tgt := 193) hx hb dL_acts_15 (by rw [c36]; decide) (by rw [c36]; decide) (by rw [c36]; decide) (by decide) ?_
    refine lv_aload_n hx hb dL_acts_193 rfl (lv_at hl 2 rfl) ?_
    refine lv_iload_n hx hb dL_acts_194 rfl (lv_at hl 1 rfl) ?_
    refine lv_iconst (v := 2) hx hb dL_acts_195 (by decide) ?_
    refine lv_irem hx hb dL_acts_196 (by decide) ?_
    refine lv_iload_n hx hb dL_acts_197 rfl (lv_at hl 1 rfl) ?_
    refine lv_iconst (v := 2) hx hb dL_acts_198 (by decide) ?_
    refine lv_idiv hx hb dL_acts_199 (by decide) ?_
    refine lv_sipush (v := 2001) hx hb dL_acts_200 (by decide) ?_
    refine lv_irem hx hb dL_acts_203 (by decide) ?_
    refine lv_sipush (v := 1000) hx hb dL_acts_204 (by decide) ?_
    refine lv_isub hx hb dL_acts_207 ?_
    obtain ⟨x37, ex37, h0⟩ := ob_out h0
    obtain ⟨Pv38, ePv38, h0⟩ := lt_out h0
    obtain ⟨Gv39, eGv39, h0⟩ := lt_out h0
    have kx37 := m_X7_setCurve l D ca ar ag z 200 P G xs (x1 - x1 / 2 * 2) (((x1 / 2) - (x1 / 2) / 2001 * 2001) - 1000) x37.1 x37.2.1 x37.2.2 ex37 H.size
    rw [← ePv38, ← eGv39] at kx37
    refine z_callV K hZ X wC_fstx wC_fstx kx37 hl.1 2 q809 q810 q811 q16 q812 hv_X7_setCurve ⟨⟨Nat.le_of_ble_eq_true rfl, Nat.le_of_ble_eq_true rfl⟩, rfl, rfl⟩ (z_recvw K X (pl_glb (k := 0) (by decide)) rfl rfl) rfl rfl (Nat.le_of_ble_eq_true rfl) dL_acts_208 ⟨Nat.le_of_ble_eq_true rfl, Nat.le_of_ble_eq_true rfl⟩ rfl (fun H locs X => ?_)
    have h0 := Option.some.inj h0
    obtain ⟨q_0, h0⟩ := Prod.mk.inj h0
    obtain ⟨q_1, q_2⟩ := Prod.mk.inj h0
    subst q_0
    subst q_1
    subst q_2
    subst hQ
    exact w_iret K hr0 X wC_fstx hsz dL_acts_211
  have h0 := if_f c36 h0
  by_cases c40 : a2 - a2 / 12 * 12 = 7
  · have h0 := if_t c40 h0
    refine lv_tableIn (off := 197) (tgt := 212) hx hb dL_acts_15 (by rw [c40]; decide) (by rw [c40]; decide) (by rw [c40]; decide) (by decide) ?_
    refine lv_iload_n hx hb dL_acts_212 rfl (lv_at hl 0 rfl) ?_
    refine lv_if_ne (tgt := 221) hx hb dL_acts_213 (by decide) (fun c41 => ?_) (fun c41 => ?_)
    · have h0 := if_f c41 h0
      refine lv_aload_n hx hb dL_acts_221 rfl (lv_at hl 2 rfl) ?_
      refine lv_iload_n hx hb dL_acts_222 rfl (lv_at hl 1 rfl) ?_
      refine lv_iload_n hx hb dL_acts_223 rfl (lv_at hl 0 rfl) ?_
      refine lv_irem hx hb dL_acts_224 c41 ?_
      obtain ⟨x42, ex42, h0⟩ := ob_out h0
      obtain ⟨Pv43, ePv43, h0⟩ := lt_out h0
      obtain ⟨Gv44, eGv44, h0⟩ := lt_out h0
      have kx42 := m_X7_mend l D ca ar ag z 200 P G xs (x1 - x1 / x2 * x2) x42.1 x42.2.1 x42.2.2 ex42 H.size
      rw [← ePv43, ← eGv44] at kx42
      refine z_callV K hZ X wC_fstx wC_fstx kx42 hl.1 1 q813 q814 q815 q16 q816 hv_X7_mend ⟨⟨Nat.le_of_ble_eq_true rfl, Nat.le_of_ble_eq_true rfl⟩, rfl, rfl⟩ (z_recvw K X (pl_glb (k := 0) (by decide)) rfl rfl) rfl rfl (Nat.le_of_ble_eq_true rfl) dL_acts_225 ⟨Nat.le_of_ble_eq_true rfl, Nat.le_of_ble_eq_true rfl⟩ rfl (fun H locs X => ?_)
      have h0 := Option.some.inj h0
      obtain ⟨q_0, h0⟩ := Prod.mk.inj h0
      obtain ⟨q_1, q_2⟩ := Prod.mk.inj h0
      subst q_0
      subst q_1
      subst q_2
      subst hQ
      exact w_iret K hr0 X wC_fstx hsz dL_acts_228
    · have h0 := if_t c41 h0
      refine lv_bipush (v := (-9)) hx hb dL_acts_216 (by decide) ?_
      refine lv_goto (tgt := 228) hx hb dL_acts_218 (by decide) ?_
      have h0 := Option.some.inj h0
      obtain ⟨q_0, h0⟩ := Prod.mk.inj h0
      obtain ⟨q_1, q_2⟩ := Prod.mk.inj h0
      subst q_0
      subst q_1
      subst q_2
      subst hQ
      exact w_iret K hr0 X wC_fstx hsz dL_acts_228
  have h0 := if_f c40 h0
  by_cases c45 : a2 - a2 / 12 * 12 = 8
  · have h0 := if_t c45 h0
    refine lv_tableIn (off := 214) (tgt := 229) hx hb dL_acts_15 (by rw [c45]; decide) (by rw [c45]; decide) (by rw [c45]; decide) (by decide) ?_
    refine lv_aload_n hx hb dL_acts_229 rfl (lv_at hl 2 rfl) ?_
    refine lv_iload_n hx hb dL_acts_230 rfl (lv_at hl 1 rfl) ?_
    refine lv_iconst (v := 2) hx hb dL_acts_231 (by decide) ?_
    refine lv_irem hx hb dL_acts_232 (by decide) ?_
    refine lv_iconst (v := 1) hx hb dL_acts_233 (by decide) ?_
    refine lv_iload_n hx hb dL_acts_234 rfl (lv_at hl 1 rfl) ?_
    refine lv_iconst (v := 2) hx hb dL_acts_235 (by decide) ?_
    refine lv_idiv hx hb dL_acts_236 (by decide) ?_
    refine lv_ldc hx hb K.2.2.2.1 (K.2.2.2.2.1 _ q817) dL_acts_237 ?_
    refine lv_irem hx hb dL_acts_239 (by decide) ?_
    refine lv_iadd hx hb dL_acts_240 ?_
    obtain ⟨x46, ex46, h0⟩ := ob_out h0
    obtain ⟨Pv47, ePv47, h0⟩ := lt_out h0
    obtain ⟨Gv48, eGv48, h0⟩ := lt_out h0
    have kx46 := m_X7_refill l D ca ar ag z 200 P G xs (x1 - x1 / 2 * 2) (1 + ((x1 / 2) - (x1 / 2) / 40000000 * 40000000)) x46.1 x46.2.1 x46.2.2 ex46 H.size
    rw [← ePv47, ← eGv48] at kx46
    refine z_callV K hZ X wC_fstx wC_fstx kx46 hl.1 2 q818 q819 q820 q16 q821 hv_X7_refill ⟨⟨Nat.le_of_ble_eq_true rfl, Nat.le_of_ble_eq_true rfl⟩, rfl, rfl⟩ (z_recvw K X (pl_glb (k := 0) (by decide)) rfl rfl) rfl rfl (Nat.le_of_ble_eq_true rfl) dL_acts_241 ⟨Nat.le_of_ble_eq_true rfl, Nat.le_of_ble_eq_true rfl⟩ rfl (fun H locs X => ?_)
    have h0 := Option.some.inj h0
    obtain ⟨q_0, h0⟩ := Prod.mk.inj h0
    obtain ⟨q_1, q_2⟩ := Prod.mk.inj h0
    subst q_0
    subst q_1
    subst q_2
    subst hQ
    exact w_iret K hr0 X wC_fstx hsz dL_acts_244
  have h0 := if_f c45 h0
  by_cases c49 : a2 - a2 / 12 * 12 = 9
  · have h0 := if_t c49 h0
    refine lv_tableIn (off := 214) (tgt := 229) hx hb dL_acts_15 (by rw [c49]; decide) (by rw [c49]; decide) (by rw [c49]; decide) (by decide) ?_
    refine lv_aload_n hx hb dL_acts_229 rfl (lv_at hl 2 rfl) ?_
    refine lv_iload_n hx hb dL_acts_230 rfl (lv_at hl 1 rfl) ?_
    refine lv_iconst (v := 2) hx hb dL_acts_231 (by decide) ?_
    refine lv_irem hx hb dL_acts_232 (by decide) ?_
    refine lv_iconst (v := 1) hx hb dL_acts_233 (by decide) ?_
    refine lv_iload_n hx hb dL_acts_234 rfl (lv_at hl 1 rfl) ?_
    refine lv_iconst (v := 2) hx hb dL_acts_235 (by decide) ?_
    refine lv_idiv hx hb dL_acts_236 (by decide) ?_
    refine lv_ldc hx hb K.2.2.2.1 (K.2.2.2.2.1 _ q817) dL_acts_237 ?_
    refine lv_irem hx hb dL_acts_239 (by decide) ?_
    refine lv_iadd hx hb dL_acts_240 ?_
    obtain ⟨x50, ex50, h0⟩ := ob_out h0
    obtain ⟨Pv51, ePv51, h0⟩ := lt_out h0
    obtain ⟨Gv52, eGv52, h0⟩ := lt_out h0
    have kx50 := m_X7_refill l D ca ar ag z 200 P G xs (x1 - x1 / 2 * 2) (1 + ((x1 / 2) - (x1 / 2) / 40000000 * 40000000)) x50.1 x50.2.1 x50.2.2 ex50 H.size
    rw [← ePv51, ← eGv52] at kx50
    refine z_callV K hZ X wC_fstx wC_fstx kx50 hl.1 2 q818 q819 q820 q16 q821 hv_X7_refill ⟨⟨Nat.le_of_ble_eq_true rfl, Nat.le_of_ble_eq_true rfl⟩, rfl, rfl⟩ (z_recvw K X (pl_glb (k := 0) (by decide)) rfl rfl) rfl rfl (Nat.le_of_ble_eq_true rfl) dL_acts_241 ⟨Nat.le_of_ble_eq_true rfl, Nat.le_of_ble_eq_true rfl⟩ rfl (fun H locs X => ?_)
    have h0 := Option.some.inj h0
    obtain ⟨q_0, h0⟩ := Prod.mk.inj h0
    obtain ⟨q_1, q_2⟩ := Prod.mk.inj h0
    subst q_0
    subst q_1
    subst q_2
    subst hQ
    exact w_iret K hr0 X wC_fstx hsz dL_acts_244
  have h0 := if_f c49 h0
  by_cases c53 : a2 - a2 / 12 * 12 = 10
  · have h0 := if_t c53 h0
    refine lv_tableIn (off := 230) (tgt := 245) hx hb dL_acts_15 (by rw [c53]; decide) (by rw [c53]; decide) (by rw [c53]; decide) (by decide) ?_
    refine lv_aload_n hx hb dL_acts_245 rfl (lv_at hl 2 rfl) ?_
    refine lv_iload_n hx hb dL_acts_246 rfl (lv_at hl 1 rfl) ?_
    refine lv_iconst (v := 2) hx hb dL_acts_247 (by decide) ?_
    refine lv_irem hx hb dL_acts_248 (by decide) ?_
    refine lv_iload_n hx hb dL_acts_249 rfl (lv_at hl 1 rfl) ?_
    refine lv_iconst (v := 2) hx hb dL_acts_250 (by decide) ?_
    refine lv_idiv hx hb dL_acts_251 (by decide) ?_
    refine lv_aload_n hx hb dL_acts_252 rfl (lv_at hl 2 rfl) ?_
    refine lv_iconst (v := 0) hx hb dL_acts_253 (by decide) ?_
    obtain ⟨x54, ex54, h0⟩ := ob_out h0
    have kx54 := m_X7_size l D ca ar ag z 200 P G xs 0 x54 ex54 H.size
    refine z_callV K hZ X wC_fstx wC_fstx kx54 hl.1 1 q680 q681 q682 q16 q683 hv_X7_size ⟨⟨Nat.le_of_ble_eq_true rfl, Nat.le_of_ble_eq_true rfl⟩, rfl, rfl⟩ (z_recvw K X (pl_glb (k := 0) (by decide)) rfl rfl) rfl rfl (Nat.le_of_ble_eq_true rfl) dL_acts_254 ⟨Nat.le_of_ble_eq_true rfl, Nat.le_of_ble_eq_true rfl⟩ rfl (fun H locs X => ?_)
    obtain ⟨c55, h0⟩ := if_o h0
    refine lv_irem hx hb dL_acts_257 c55 ?_
    refine lv_iconst (v := 1) hx hb dL_acts_258 (by decide) ?_
    refine lv_iload_n hx hb dL_acts_259 rfl (lv_at hl 1 rfl) ?_
    refine lv_bipush (v := 16) hx hb dL_acts_260 (by decide) ?_
    refine lv_idiv hx hb dL_acts_262 (by decide) ?_
    refine lv_bipush (v := 10) hx hb dL_acts_263 (by decide) ?_
    refine lv_irem hx hb dL_acts_265 (by decide) ?_
    refine lv_iadd hx hb dL_acts_266 ?_
    refine lv_bipush (v := 50) hx hb dL_acts_267 (by decide) ?_
    refine lv_iload_n hx hb dL_acts_269 rfl (lv_at hl 1 rfl) ?_
    refine lv_sipush (v := 160) hx hb dL_acts_270 (by decide) ?_
    refine lv_idiv hx hb dL_acts_273 (by decide) ?_
    refine lv_sipush (v := 951) hx hb dL_acts_274 (by decide) ?_
    refine lv_irem hx hb dL_acts_277 (by decide) ?_
    refine lv_iadd hx hb dL_acts_278 ?_
    refine lv_bipush (v := 100) hx hb dL_acts_279 (by decide) ?_
    refine lv_iload_n hx hb dL_acts_281 rfl (lv_at hl 1 rfl) ?_
    refine lv_sipush (v := 300) hx hb dL_acts_282 (by decide) ?_
    refine lv_idiv hx hb dL_acts_285 (by decide) ?_
    refine lv_sipush (v := 1900) hx hb dL_acts_286 (by decide) ?_
    refine lv_irem hx hb dL_acts_289 (by decide) ?_
    refine lv_iadd hx hb dL_acts_290 ?_
    obtain ⟨x56, ex56, h0⟩ := ob_out h0
    obtain ⟨Pv57, ePv57, h0⟩ := lt_out h0
    obtain ⟨Gv58, eGv58, h0⟩ := lt_out h0
    have kx56 := m_X7_addTube l D ca ar ag z 200 P G xs (x1 - x1 / 2 * 2) ((x1 / 2) - (x1 / 2) / x54 * x54) (1 + ((x1 / 16) - (x1 / 16) / 10 * 10)) (50 + ((x1 / 160) - (x1 / 160) / 951 * 951)) (100 + ((x1 / 300) - (x1 / 300) / 1900 * 1900)) x56.1 x56.2.1 x56.2.2 ex56 H.size
    rw [← ePv57, ← eGv58] at kx56
    refine z_callV K hZ X wC_fstx wC_fstx kx56 hl.1 5 q824 q825 q826 q16 q827 hv_X7_addTube ⟨⟨Nat.le_of_ble_eq_true rfl, Nat.le_of_ble_eq_true rfl⟩, rfl, rfl⟩ (z_recvw K X (pl_glb (k := 0) (by decide)) rfl rfl) rfl rfl (Nat.le_of_ble_eq_true rfl) dL_acts_291 ⟨Nat.le_of_ble_eq_true rfl, Nat.le_of_ble_eq_true rfl⟩ rfl (fun H locs X => ?_)
    have h0 := Option.some.inj h0
    obtain ⟨q_0, h0⟩ := Prod.mk.inj h0
    obtain ⟨q_1, q_2⟩ := Prod.mk.inj h0
    subst q_0
    subst q_1
    subst q_2
    subst hQ
    exact w_iret K hr0 X wC_fstx hsz dL_acts_294
  have h0 := if_f c53 h0
  refine lv_tableOut (tgt := 295) hx hb dL_acts_15 (by have gc3 := lv_neT (a := 0) c3 (by decide); have gc9 := lv_neT (a := 1) c9 (by decide); have gc15 := lv_neT (a := 2) c15 (by decide); have gc19 := lv_neT (a := 3) c19 (by decide); have gc25 := lv_neT (a := 4) c25 (by decide); have gc30 := lv_neT (a := 5) c30 (by decide); have gc36 := lv_neT (a := 6) c36 (by decide); have gc40 := lv_neT (a := 7) c40 (by decide); have gc45 := lv_neT (a := 8) c45 (by decide); have gc49 := lv_neT (a := 9) c49 (by decide); have gc53 := lv_neT (a := 10) c53 (by decide); omega) (by decide) ?_
  refine lv_iload_n hx hb dL_acts_295 rfl (lv_at hl 0 rfl) ?_
  refine lv_if_ne (tgt := 304) hx hb dL_acts_296 (by decide) (fun c59 => ?_) (fun c59 => ?_)
  · have h0 := if_f c59 h0
    refine lv_aload_n hx hb dL_acts_304 rfl (lv_at hl 2 rfl) ?_
    refine lv_iload_n hx hb dL_acts_305 rfl (lv_at hl 1 rfl) ?_
    refine lv_iload_n hx hb dL_acts_306 rfl (lv_at hl 0 rfl) ?_
    refine lv_irem hx hb dL_acts_307 c59 ?_
    obtain ⟨x60, ex60, h0⟩ := ob_out h0
    obtain ⟨Pv61, ePv61, h0⟩ := lt_out h0
    obtain ⟨Gv62, eGv62, h0⟩ := lt_out h0
    have kx60 := m_X7_dropTube l D ca ar ag z 200 P G xs (x1 - x1 / x2 * x2) x60.1 x60.2.1 x60.2.2 ex60 H.size
    rw [← ePv61, ← eGv62] at kx60
    refine z_callV K hZ X wC_fstx wC_fstx kx60 hl.1 1 q831 q832 q833 q16 q834 hv_X7_dropTube ⟨⟨Nat.le_of_ble_eq_true rfl, Nat.le_of_ble_eq_true rfl⟩, rfl, rfl⟩ (z_recvw K X (pl_glb (k := 0) (by decide)) rfl rfl) rfl rfl (Nat.le_of_ble_eq_true rfl) dL_acts_308 ⟨Nat.le_of_ble_eq_true rfl, Nat.le_of_ble_eq_true rfl⟩ rfl (fun H locs X => ?_)
    have h0 := Option.some.inj h0
    obtain ⟨q_0, h0⟩ := Prod.mk.inj h0
    obtain ⟨q_1, q_2⟩ := Prod.mk.inj h0
    subst q_0
    subst q_1
    subst q_2
    subst hQ
    exact w_iret K hr0 X wC_fstx hsz dL_acts_311
  · have h0 := if_t c59 h0
    refine lv_bipush (v := (-9)) hx hb dL_acts_299 (by decide) ?_
    refine lv_goto (tgt := 311) hx hb dL_acts_301 (by decide) ?_
    have h0 := Option.some.inj h0
    obtain ⟨q_0, h0⟩ := Prod.mk.inj h0
    obtain ⟨q_1, q_2⟩ := Prod.mk.inj h0
    subst q_0
    subst q_1
    subst q_2
    subst hQ
    exact w_iret K hr0 X wC_fstx hsz dL_acts_311
-- L_areTubes
def b_L_areTubes_238 (P : RowsS) (G : GlbS) (B_238 : Nat → Int32) : Option Bool :=
  ob (f_X7_size 200 P G 3) fun x4 =>
  if 0 ≤ (0 : Int32).toInt ∧ (0 : Int32).toInt < 3 then
    if x4 = (B_238 (0 : Int32).toNatClampNeg) then
      ob (f_X7_size 200 P G 4) fun x7 =>
      if 0 ≤ (1 : Int32).toInt ∧ (1 : Int32).toInt < 3 then
        if x7 = (B_238 (1 : Int32).toNatClampNeg) then
          ob (f_X7_size 200 P G 5) fun x10 =>
          if 0 ≤ (2 : Int32).toInt ∧ (2 : Int32).toInt < 3 then
            if x10 = (B_238 (2 : Int32).toNatClampNeg) then
              some true
            else
              some false
          else none
        else
          some false
      else none
    else
      some false
  else none
def b_L_areTubes_203 (P : RowsS) (G : GlbS) (y203_l2 : Int32) (B_203 : Nat → Int32) : Option ((Int32 × (Nat → Int32)) ⊕ ((Nat → Int32) ⊕ Bool)) :=
  ob (f_X7_tube P G y203_l2 8) fun x39 =>
  ob (f_X7_tube P G y203_l2 7) fun x40 =>
  ob (f_X7_tube P G y203_l2 5) fun x41 =>
  if x39 = ((x40 / 10) + x41) then
    lt (y203_l2 + 1) fun x43 =>
    some (.inl (x43, B_203))
  else
    some (.inr (.inr false))
def l_L_areTubes_6 (P : RowsS) (G : GlbS) (z6_2 : Int32) (Bz_6 : Nat → Int32) : Option ((Int32 × (Nat → Int32)) ⊕ ((Nat → Int32) ⊕ Bool)) :=
  ob (f_X7_size 200 P G 2) fun x2 =>
  if x2 ≤ z6_2 then
    some (.inr (.inl Bz_6))
  else
    ob (f_X7_tube P G z6_2 0) fun x13 =>
    ob (f_X7_tube P G z6_2 6) fun x14 =>
    if 0 ≤ x14.toInt ∧ x14.toInt < 3 then
      if 0 ≤ x14.toInt ∧ x14.toInt < 3 then
        lt (va_up Bz_6 x14.toNatClampNeg ((Bz_6 x14.toNatClampNeg) + 1)) fun Bv17 =>
        ob (f_X7_tube P G z6_2 9) fun x18 =>
        ob (f_X7_size 200 P G 1) fun x19 =>
        ob (f_X7_tube P G z6_2 1) fun x20 =>
        ob (f_X7_pressure P G x20) fun x21 =>
        ob (f_X7_leg P G x13 0) fun x22 =>
        if ¬ x22 = 0 then
          if x18 = (((x19 - x21) * 1000) / x22) then
            ob (f_X7_tube P G z6_2 10) fun x25 =>
            ob (f_X7_leg P G x13 2) fun x26 =>
            ob (f_X7_tube P G z6_2 2) fun x27 =>
            if ¬ x27 = 0 then
              if x25 = (x26 / x27) then
                ob (f_X7_leg P G x13 3) fun x30 =>
                ob (f_L_run P G z6_2 x30.toInt64) fun x31 =>
                ob (f_X7_tube P G z6_2 4) fun x32 =>
                lt (100 * x32) fun x33 =>
                if x14 = 0 then
                  if x31 < 0 then
                    some (.inr (.inr false))
                  else
                    if x33.toInt64 < x31 then
                      some (.inr (.inr false))
                    else
                      ob (f_X7_tube P G z6_2 7) fun x46 =>
                      if x46.toInt64 = x31 then
                        ob (f_X7_room P G z6_2) fun x48 =>
                        ob (f_X7_tube P G z6_2 7) fun x49 =>
                        if x48 = (x33 - x49) then
                          b_L_areTubes_203 P G z6_2 Bv17
                        else
                          some (.inr (.inr false))
                      else
                        some (.inr (.inr false))
                else
                  ob (f_X7_tube P G z6_2 7) fun x35 =>
                  if x35 = 0 then
                    ob (f_X7_room P G z6_2) fun x37 =>
                    if x37 = (-1) then
                      b_L_areTubes_203 P G z6_2 Bv17
                    else
                      some (.inr (.inr false))
                  else
                    some (.inr (.inr false))
              else
                some (.inr (.inr false))
            else none
          else
            some (.inr (.inr false))
        else none
      else none
    else none
def f_L_areTubes (P : RowsS) (G : GlbS) : Option Bool :=
  lt (fun _ => (0 : Int32)) fun Bv1 =>
  ob (wloop (fun t => l_L_areTubes_6 P G t.1 t.2) 200 (0, Bv1)) (fun t => match t with | .inl t => b_L_areTubes_238 P G t | .inr r => some r)
abbrev rm_L_areTubes : Room := { frames := 4, cells := 1, slots := 3, locals := 89 }
set_option maxRecDepth 100000 in
set_option maxHeartbeats 4000000 in
theorem m_L_areTubes (l : Launch) (D : va_G) (ca : Nat → ClassId) (ar : Nat → Nat → Nat) (ag : Nat → Nat) (z : ZG) (P : RowsS) (G : GlbS) (xs : va_W) (res : Bool) (h0 : f_L_areTubes P G = some res) (sz : Nat) : Met l yL_areTubes (ws_ yL_areTubes cL_areTubes 8 (some .boolean)) rm_L_areTubes (PCz z D ca (wC ar ag ca P G ++ xs) sz [.ref (ag 0)]) (QMw D (wC ar ag ca P G ++ xs) (wC ar ag ca P G ++ xs) sz (some (.int (b2i res)))) 1 3 (AL (wC ar ag ca P G ++ xs) sz) := by
  refine met_z (by decide +kernel) (Nat.le_of_ble_eq_true rfl) (fun p e s m args below meth c K hr0 hZ X hsz ls hl => ?_)
  have K : MC D ca p s m args meth c cL_areTubes 8 RL := K
  have hx := K.1
  have hb := K.2.1
  have hl : lv_has ls 8 [(0, .ref (ag 0))] := hl
  generalize hQ : MQ below _ args s 1 3 _ = Q
  unfold f_L_areTubes at h0
  suffices Z : ∀ (H : Heap) (locs : List Loc) (X : RW D (wC ar ag ca P G ++ xs) s.heap H locs), W p l e rm_L_areTubes s m args below meth c H locs 0 0 Q (F0 m 0 ls []) from Z _ _ X
  intro H locs X
  refine lv_iconst (v := 3) hx hb dL_areTubes_0 (by decide) ?_
  refine z_newb K hZ X wC_fstx (N' := 3) rfl (by decide) (by decide) q90 (Nat.le_of_ble_eq_true rfl) (Nat.le_of_ble_eq_true rfl) dL_areTubes_1 (fun bw H hdr hzz X => ?_)
  have hZ := hzz
  obtain ⟨Bv1, eBv1, h0⟩ := lt_out h0
  rw [← eBv1] at X
  refine lv_astore_n (lv' := [(1, .ref bw), (0, .ref (ag 0))]) hx hb dL_areTubes_3 rfl hl (by decide) rfl (fun ls hl => ?_)
  have J238 : ∀ (B_238 : Nat → Int32) (H : Heap) (locs : List Loc) (X : RW D (wC ar ag ca P G ++ (xs ++ ([(bw, .inl (ca 1, 3, .inl B_238))] : va_W))) s.heap H locs) (ls : Array Slot) (hl : lv_has ls 8 [(0, .ref (ag 0)), (1, .ref bw)]) (h0 : b_L_areTubes_238 P G B_238 = some res), W p l e rm_L_areTubes s m args below meth c H locs 1 3 Q (F0 m 238 ls []) := by
    intro B_238 H locs X ls hl h0
    unfold b_L_areTubes_238 at h0
    refine lv_aload_n hx hb dL_areTubes_238 rfl (lv_at hl 0 rfl) ?_
    refine lv_iconst (v := 3) hx hb dL_areTubes_239 (by decide) ?_
    obtain ⟨x4, ex4, h0⟩ := ob_out h0
    have kx4 := m_X7_size l D ca ar ag z 200 P G (xs ++ ([(bw, .inl (ca 1, 3, .inl B_238))] : va_W)) 3 x4 ex4 H.size
    refine z_callV K hZ X xs_fst xs_fst kx4 hl.1 1 q680 q681 q682 q16 q683 hv_X7_size ⟨⟨Nat.le_of_ble_eq_true rfl, Nat.le_of_ble_eq_true rfl⟩, rfl, rfl⟩ (z_recvw K X (pl_glb (k := 0) (by decide)) rfl rfl) rfl rfl (Nat.le_of_ble_eq_true rfl) dL_areTubes_240 ⟨Nat.le_of_ble_eq_true rfl, Nat.le_of_ble_eq_true rfl⟩ rfl (fun H locs X => ?_)
    refine lv_aload_n hx hb dL_areTubes_243 rfl (lv_at hl 1 rfl) ?_
    refine lv_iconst (v := 0) hx hb dL_areTubes_244 (by decide) ?_
    obtain ⟨c5, h0⟩ := if_o h0
    refine w_iald (f := B_238) K X (243 + xs.length) ctor_atw (inb_vp c5) dL_areTubes_245 ?_
    refine lv_icmp_ne (tgt := 275) hx hb dL_areTubes_246 (by decide) (fun c6 => ?_) (fun c6 => ?_)
    · have h0 := if_f c6 h0
      refine lv_iconst (v := 0) hx hb dL_areTubes_275 (by decide) ?_
      have h0 := Option.some.inj h0
      subst h0
      subst hQ
      refine w_int (y := b2i false) (by decide) ?_
      exact w_zret K hr0 (hdr _ _ _ _ _ X) wC_fstx hsz (b2i_nar _) dL_areTubes_276
    · have h0 := if_t c6 h0
      refine lv_aload_n hx hb dL_areTubes_249 rfl (lv_at hl 0 rfl) ?_
      refine lv_iconst (v := 4) hx hb dL_areTubes_250 (by decide) ?_
      obtain ⟨x7, ex7, h0⟩ := ob_out h0
      have kx7 := m_X7_size l D ca ar ag z 200 P G (xs ++ ([(bw, .inl (ca 1, 3, .inl B_238))] : va_W)) 4 x7 ex7 H.size
      refine z_callV K hZ X xs_fst xs_fst kx7 hl.1 1 q680 q681 q682 q16 q683 hv_X7_size ⟨⟨Nat.le_of_ble_eq_true rfl, Nat.le_of_ble_eq_true rfl⟩, rfl, rfl⟩ (z_recvw K X (pl_glb (k := 0) (by decide)) rfl rfl) rfl rfl (Nat.le_of_ble_eq_true rfl) dL_areTubes_251 ⟨Nat.le_of_ble_eq_true rfl, Nat.le_of_ble_eq_true rfl⟩ rfl (fun H locs X => ?_)
      refine lv_aload_n hx hb dL_areTubes_254 rfl (lv_at hl 1 rfl) ?_
      refine lv_iconst (v := 1) hx hb dL_areTubes_255 (by decide) ?_
      obtain ⟨c8, h0⟩ := if_o h0
      refine w_iald (f := B_238) K X (243 + xs.length) ctor_atw (inb_vp c8) dL_areTubes_256 ?_
      refine lv_icmp_ne (tgt := 275) hx hb dL_areTubes_257 (by decide) (fun c9 => ?_) (fun c9 => ?_)
      · have h0 := if_f c9 h0
        refine lv_iconst (v := 0) hx hb dL_areTubes_275 (by decide) ?_
        have h0 := Option.some.inj h0
        subst h0
        subst hQ
        refine w_int (y := b2i false) (by decide) ?_
        exact w_zret K hr0 (hdr _ _ _ _ _ X) wC_fstx hsz (b2i_nar _) dL_areTubes_276
      · have h0 := if_t c9 h0
        refine lv_aload_n hx hb dL_areTubes_260 rfl (lv_at hl 0 rfl) ?_
        refine lv_iconst (v := 5) hx hb dL_areTubes_261 (by decide) ?_
        obtain ⟨x10, ex10, h0⟩ := ob_out h0
        have kx10 := m_X7_size l D ca ar ag z 200 P G (xs ++ ([(bw, .inl (ca 1, 3, .inl B_238))] : va_W)) 5 x10 ex10 H.size
        refine z_callV K hZ X xs_fst xs_fst kx10 hl.1 1 q680 q681 q682 q16 q683 hv_X7_size ⟨⟨Nat.le_of_ble_eq_true rfl, Nat.le_of_ble_eq_true rfl⟩, rfl, rfl⟩ (z_recvw K X (pl_glb (k := 0) (by decide)) rfl rfl) rfl rfl (Nat.le_of_ble_eq_true rfl) dL_areTubes_262 ⟨Nat.le_of_ble_eq_true rfl, Nat.le_of_ble_eq_true rfl⟩ rfl (fun H locs X => ?_)
        refine lv_aload_n hx hb dL_areTubes_265 rfl (lv_at hl 1 rfl) ?_
        refine lv_iconst (v := 2) hx hb dL_areTubes_266 (by decide) ?_
        obtain ⟨c11, h0⟩ := if_o h0
        refine w_iald (f := B_238) K X (243 + xs.length) ctor_atw (inb_vp c11) dL_areTubes_267 ?_
        refine lv_icmp_ne (tgt := 275) hx hb dL_areTubes_268 (by decide) (fun c12 => ?_) (fun c12 => ?_)
        · have h0 := if_f c12 h0
          refine lv_iconst (v := 0) hx hb dL_areTubes_275 (by decide) ?_
          have h0 := Option.some.inj h0
          subst h0
          subst hQ
          refine w_int (y := b2i false) (by decide) ?_
          exact w_zret K hr0 (hdr _ _ _ _ _ X) wC_fstx hsz (b2i_nar _) dL_areTubes_276
        · have h0 := if_t c12 h0
          refine lv_iconst (v := 1) hx hb dL_areTubes_271 (by decide) ?_
          refine lv_goto (tgt := 276) hx hb dL_areTubes_272 (by decide) ?_
          have h0 := Option.some.inj h0
          subst h0
          subst hQ
          refine w_int (y := b2i true) (by decide) ?_
          exact w_zret K hr0 (hdr _ _ _ _ _ X) wC_fstx hsz (b2i_nar _) dL_areTubes_276
  refine lv_iconst (v := 0) hx hb dL_areTubes_4 (by decide) ?_
  refine lv_istore_n (lv' := [(2, .int 0), (1, .ref bw), (0, .ref (ag 0))]) hx hb dL_areTubes_5 rfl hl (by decide) rfl (fun ls hl => ?_)
  obtain ⟨e_1, he1, h0⟩ := ob_out h0
  have K6 : ∀ (k : Nat) (z6_2 : Int32) (Bz_6 : Nat → Int32) (H : Heap) (locs : List Loc) (X : RW D (wC ar ag ca P G ++ (xs ++ ([(bw, .inl (ca 1, 3, .inl Bz_6))] : va_W))) s.heap H locs) (ls : Array Slot) (hl : lv_has ls 8 [(0, .ref (ag 0)), (1, .ref bw), (2, .int z6_2)]) (hw : wloop (fun t => l_L_areTubes_6 P G t.1 t.2) k (z6_2, Bz_6) = some e_1), W p l e rm_L_areTubes s m args below meth c H locs 1 3 Q (F0 m 6 ls []) := by
    intro k
    induction k with
    | zero => intro z6_2 Bz_6 H locs X ls hl hw; exact (wloop_0 hw).elim
    | succ k ih1 =>
      intro z6_2 Bz_6 H locs X ls hl hw
      obtain ⟨x_1, h1, hx1⟩ := wloop_out hw
      have h1 : l_L_areTubes_6 P G z6_2 Bz_6 = some x_1 := h1
      unfold l_L_areTubes_6 at h1
      have J203 : ∀ (y203_l2 : Int32) (B_203 : Nat → Int32) (H : Heap) (locs : List Loc) (X : RW D (wC ar ag ca P G ++ (xs ++ ([(bw, .inl (ca 1, 3, .inl B_203))] : va_W))) s.heap H locs) (ls : Array Slot) (hl : lv_has ls 8 [(0, .ref (ag 0)), (1, .ref bw), (2, .int y203_l2)]) (h1 : b_L_areTubes_203 P G y203_l2 B_203 = some x_1), W p l e rm_L_areTubes s m args below meth c H locs 1 3 Q (F0 m 203 ls []) := by
        intro y203_l2 B_203 H locs X ls hl h1
        unfold b_L_areTubes_203 at h1
        refine lv_aload_n hx hb dL_areTubes_203 rfl (lv_at hl 0 rfl) ?_
        refine lv_iload_n hx hb dL_areTubes_204 rfl (lv_at hl 2 rfl) ?_
        refine lv_bipush (v := 8) hx hb dL_areTubes_205 (by decide) ?_
        obtain ⟨x39, ex39, h1⟩ := ob_out h1
        have kx39 := m_X7_tube l D ca ar ag z P G (xs ++ ([(bw, .inl (ca 1, 3, .inl B_203))] : va_W)) y203_l2 8 x39 ex39 H.size
        refine z_callV K hZ X xs_fst xs_fst kx39 hl.1 2 q710 q711 q712 q16 q713 hv_X7_tube ⟨⟨Nat.le_of_ble_eq_true rfl, Nat.le_of_ble_eq_true rfl⟩, rfl, rfl⟩ (z_recvw K X (pl_glb (k := 0) (by decide)) rfl rfl) rfl rfl (Nat.le_of_ble_eq_true rfl) dL_areTubes_207 ⟨Nat.le_of_ble_eq_true rfl, Nat.le_of_ble_eq_true rfl⟩ rfl (fun H locs X => ?_)
        refine lv_aload_n hx hb dL_areTubes_210 rfl (lv_at hl 0 rfl) ?_
        refine lv_iload_n hx hb dL_areTubes_211 rfl (lv_at hl 2 rfl) ?_
        refine lv_bipush (v := 7) hx hb dL_areTubes_212 (by decide) ?_
        obtain ⟨x40, ex40, h1⟩ := ob_out h1
        have kx40 := m_X7_tube l D ca ar ag z P G (xs ++ ([(bw, .inl (ca 1, 3, .inl B_203))] : va_W)) y203_l2 7 x40 ex40 H.size
        refine z_callV K hZ X xs_fst xs_fst kx40 hl.1 2 q710 q711 q712 q16 q713 hv_X7_tube ⟨⟨Nat.le_of_ble_eq_true rfl, Nat.le_of_ble_eq_true rfl⟩, rfl, rfl⟩ (z_recvw K X (pl_glb (k := 0) (by decide)) rfl rfl) rfl rfl (Nat.le_of_ble_eq_true rfl) dL_areTubes_214 ⟨Nat.le_of_ble_eq_true rfl, Nat.le_of_ble_eq_true rfl⟩ rfl (fun H locs X => ?_)
        refine lv_bipush (v := 10) hx hb dL_areTubes_217 (by decide) ?_
        refine lv_idiv hx hb dL_areTubes_219 (by decide) ?_
        refine lv_aload_n hx hb dL_areTubes_220 rfl (lv_at hl 0 rfl) ?_
        refine lv_iload_n hx hb dL_areTubes_221 rfl (lv_at hl 2 rfl) ?_
        refine lv_iconst (v := 5) hx hb dL_areTubes_222 (by decide) ?_
        obtain ⟨x41, ex41, h1⟩ := ob_out h1
        have kx41 := m_X7_tube l D ca ar ag z P G (xs ++ ([(bw, .inl (ca 1, 3, .inl B_203))] : va_W)) y203_l2 5 x41 ex41 H.size
        refine z_callV K hZ X xs_fst xs_fst kx41 hl.1 2 q710 q711 q712 q16 q713 hv_X7_tube ⟨⟨Nat.le_of_ble_eq_true rfl, Nat.le_of_ble_eq_true rfl⟩, rfl, rfl⟩ (z_recvw K X (pl_glb (k := 0) (by decide)) rfl rfl) rfl rfl (Nat.le_of_ble_eq_true rfl) dL_areTubes_223 ⟨Nat.le_of_ble_eq_true rfl, Nat.le_of_ble_eq_true rfl⟩ rfl (fun H locs X => ?_)
        refine lv_iadd hx hb dL_areTubes_226 ?_
        refine lv_icmp_eq (tgt := 232) hx hb dL_areTubes_227 (by decide) (fun c42 => ?_) (fun c42 => ?_)
        · have h1 := if_t c42 h1
          obtain ⟨x43, ex43, h1⟩ := lt_out h1
          refine lv_iinc (v := x43) (lv' := [(2, .int x43), (0, .ref (ag 0)), (1, .ref bw)]) hx hb dL_areTubes_232 hl (k := 2) rfl (by rw [ex43]; rfl) (by decide) rfl (fun ls hl => ?_)
          refine lv_goto (tgt := 6) hx hb dL_areTubes_235 (by decide) ?_
          exact ih1 x43 B_203 H locs X ls (lv_sub hl [1, 2, 0] rfl) (wl_l h1 hx1)
        · have h1 := if_f c42 h1
          refine lv_iconst (v := 0) hx hb dL_areTubes_230 (by decide) ?_
          have q1 := wl_r h1 hx1
          rw [q1] at h0
          have h0 : some false = some res := h0
          have h0 := Option.some.inj h0
          subst h0
          subst hQ
          refine w_int (y := b2i false) (by decide) ?_
          exact w_zret K hr0 (hdr _ _ _ _ _ X) wC_fstx hsz (b2i_nar _) dL_areTubes_231
      refine lv_iload_n hx hb dL_areTubes_6 rfl (lv_at hl 2 rfl) ?_
      refine lv_aload_n hx hb dL_areTubes_7 rfl (lv_at hl 0 rfl) ?_
      refine lv_iconst (v := 2) hx hb dL_areTubes_8 (by decide) ?_
      obtain ⟨x2, ex2, h1⟩ := ob_out h1
      have kx2 := m_X7_size l D ca ar ag z 200 P G (xs ++ ([(bw, .inl (ca 1, 3, .inl Bz_6))] : va_W)) 2 x2 ex2 H.size
      refine z_callV K hZ X xs_fst xs_fst kx2 hl.1 1 q680 q681 q682 q16 q683 hv_X7_size ⟨⟨Nat.le_of_ble_eq_true rfl, Nat.le_of_ble_eq_true rfl⟩, rfl, rfl⟩ (z_recvw K X (pl_glb (k := 0) (by decide)) rfl rfl) rfl rfl (Nat.le_of_ble_eq_true rfl) dL_areTubes_9 ⟨Nat.le_of_ble_eq_true rfl, Nat.le_of_ble_eq_true rfl⟩ rfl (fun H locs X => ?_)
      refine lv_icmp_ge (tgt := 238) hx hb dL_areTubes_12 (by decide) (fun c3 => ?_) (fun c3 => ?_)
      · have h1 := if_t c3 h1
        have q1 := wl_r h1 hx1
        exact J238 Bz_6 H locs X ls (lv_sub hl [0, 1] rfl) (by rw [q1] at h0; exact h0)
      · have h1 := if_f c3 h1
        refine lv_aload_n hx hb dL_areTubes_15 rfl (lv_at hl 0 rfl) ?_
        refine lv_iload_n hx hb dL_areTubes_16 rfl (lv_at hl 2 rfl) ?_
        refine lv_iconst (v := 0) hx hb dL_areTubes_17 (by decide) ?_
        obtain ⟨x13, ex13, h1⟩ := ob_out h1
        have kx13 := m_X7_tube l D ca ar ag z P G (xs ++ ([(bw, .inl (ca 1, 3, .inl Bz_6))] : va_W)) z6_2 0 x13 ex13 H.size
        refine z_callV K hZ X xs_fst xs_fst kx13 hl.1 2 q710 q711 q712 q16 q713 hv_X7_tube ⟨⟨Nat.le_of_ble_eq_true rfl, Nat.le_of_ble_eq_true rfl⟩, rfl, rfl⟩ (z_recvw K X (pl_glb (k := 0) (by decide)) rfl rfl) rfl rfl (Nat.le_of_ble_eq_true rfl) dL_areTubes_18 ⟨Nat.le_of_ble_eq_true rfl, Nat.le_of_ble_eq_true rfl⟩ rfl (fun H locs X => ?_)
        refine lv_istore_n (lv' := [(3, .int x13), (0, .ref (ag 0)), (1, .ref bw), (2, .int z6_2)]) hx hb dL_areTubes_21 rfl hl (by decide) rfl (fun ls hl => ?_)
        refine lv_aload_n hx hb dL_areTubes_22 rfl (lv_at hl 1 rfl) ?_
        refine lv_iload_n hx hb dL_areTubes_23 rfl (lv_at hl 3 rfl) ?_
        refine lv_bipush (v := 6) hx hb dL_areTubes_24 (by decide) ?_
        obtain ⟨x14, ex14, h1⟩ := ob_out h1
        have kx14 := m_X7_tube l D ca ar ag z P G (xs ++ ([(bw, .inl (ca 1, 3, .inl Bz_6))] : va_W)) z6_2 6 x14 ex14 H.size
        refine z_callV K hZ X xs_fst xs_fst kx14 hl.1 2 q710 q711 q712 q16 q713 hv_X7_tube ⟨⟨Nat.le_of_ble_eq_true rfl, Nat.le_of_ble_eq_true rfl⟩, rfl, rfl⟩ (z_recvw K X (pl_glb (k := 0) (by decide)) rfl rfl) rfl rfl (Nat.le_of_ble_eq_true rfl) dL_areTubes_26 ⟨Nat.le_of_ble_eq_true rfl, Nat.le_of_ble_eq_true rfl⟩ rfl (fun H locs X => ?_)
        refine lv_istore (lv' := [(4, .int x14), (3, .int x13), (0, .ref (ag 0)), (1, .ref bw), (2, .int z6_2)]) hx hb dL_areTubes_29 hl (by decide) rfl (fun ls hl => ?_)
        refine lv_aload_n hx hb dL_areTubes_31 rfl (lv_at hl 3 rfl) ?_
        refine lv_iload hx hb dL_areTubes_32 (lv_at hl 0 rfl) ?_
        refine lv_dup2_11 hx hb dL_areTubes_34 rfl rfl ?_
        obtain ⟨c15, h1⟩ := if_o h1
        refine w_iald (f := Bz_6) K X (243 + xs.length) ctor_atw (inb_vp c15) dL_areTubes_35 ?_
        refine lv_iconst (v := 1) hx hb dL_areTubes_36 (by decide) ?_
        refine lv_iadd hx hb dL_areTubes_37 ?_
        obtain ⟨c16, h1⟩ := if_o h1
        obtain ⟨Bv17, eBv17, h1⟩ := lt_out h1
        refine w_iast (f := Bz_6) K X (243 + xs.length) ctor_atw (inb_vp c16) (b_set eBv17) dL_areTubes_38 (fun H locs X => ?_)
        refine lv_aload_n hx hb dL_areTubes_39 rfl (lv_at hl 2 rfl) ?_
        refine lv_iload_n hx hb dL_areTubes_40 rfl (lv_at hl 4 rfl) ?_
        refine lv_bipush (v := 9) hx hb dL_areTubes_41 (by decide) ?_
        obtain ⟨x18, ex18, h1⟩ := ob_out h1
        have kx18 := m_X7_tube l D ca ar ag z P G (xs ++ ([(bw, .inl (ca 1, 3, .inl Bv17))] : va_W)) z6_2 9 x18 ex18 H.size
        refine z_callV K hZ X xs_fst xs_fst kx18 hl.1 2 q710 q711 q712 q16 q713 hv_X7_tube ⟨⟨Nat.le_of_ble_eq_true rfl, Nat.le_of_ble_eq_true rfl⟩, rfl, rfl⟩ (z_recvw K X (pl_glb (k := 0) (by decide)) rfl rfl) rfl rfl (Nat.le_of_ble_eq_true rfl) dL_areTubes_43 ⟨Nat.le_of_ble_eq_true rfl, Nat.le_of_ble_eq_true rfl⟩ rfl (fun H locs X => ?_)
        refine lv_aload_n hx hb dL_areTubes_46 rfl (lv_at hl 2 rfl) ?_
        refine lv_iconst (v := 1) hx hb dL_areTubes_47 (by decide) ?_
        obtain ⟨x19, ex19, h1⟩ := ob_out h1
        have kx19 := m_X7_size l D ca ar ag z 200 P G (xs ++ ([(bw, .inl (ca 1, 3, .inl Bv17))] : va_W)) 1 x19 ex19 H.size
        refine z_callV K hZ X xs_fst xs_fst kx19 hl.1 1 q680 q681 q682 q16 q683 hv_X7_size ⟨⟨Nat.le_of_ble_eq_true rfl, Nat.le_of_ble_eq_true rfl⟩, rfl, rfl⟩ (z_recvw K X (pl_glb (k := 0) (by decide)) rfl rfl) rfl rfl (Nat.le_of_ble_eq_true rfl) dL_areTubes_48 ⟨Nat.le_of_ble_eq_true rfl, Nat.le_of_ble_eq_true rfl⟩ rfl (fun H locs X => ?_)
        refine lv_aload_n hx hb dL_areTubes_51 rfl (lv_at hl 2 rfl) ?_
        refine lv_aload_n hx hb dL_areTubes_52 rfl (lv_at hl 2 rfl) ?_
        refine lv_iload_n hx hb dL_areTubes_53 rfl (lv_at hl 4 rfl) ?_
        refine lv_iconst (v := 1) hx hb dL_areTubes_54 (by decide) ?_
        obtain ⟨x20, ex20, h1⟩ := ob_out h1
        have kx20 := m_X7_tube l D ca ar ag z P G (xs ++ ([(bw, .inl (ca 1, 3, .inl Bv17))] : va_W)) z6_2 1 x20 ex20 H.size
        refine z_callV K hZ X xs_fst xs_fst kx20 hl.1 2 q710 q711 q712 q16 q713 hv_X7_tube ⟨⟨Nat.le_of_ble_eq_true rfl, Nat.le_of_ble_eq_true rfl⟩, rfl, rfl⟩ (z_recvw K X (pl_glb (k := 0) (by decide)) rfl rfl) rfl rfl (Nat.le_of_ble_eq_true rfl) dL_areTubes_55 ⟨Nat.le_of_ble_eq_true rfl, Nat.le_of_ble_eq_true rfl⟩ rfl (fun H locs X => ?_)
        obtain ⟨x21, ex21, h1⟩ := ob_out h1
        have kx21 := m_X7_pressure l D ca ar ag z P G (xs ++ ([(bw, .inl (ca 1, 3, .inl Bv17))] : va_W)) x20 x21 ex21 H.size
        refine z_callV K hZ X xs_fst xs_fst kx21 hl.1 1 q728 q729 q730 q16 q731 hv_X7_pressure ⟨⟨Nat.le_of_ble_eq_true rfl, Nat.le_of_ble_eq_true rfl⟩, rfl, rfl⟩ (z_recvw K X (pl_glb (k := 0) (by decide)) rfl rfl) rfl rfl (Nat.le_of_ble_eq_true rfl) dL_areTubes_58 ⟨Nat.le_of_ble_eq_true rfl, Nat.le_of_ble_eq_true rfl⟩ rfl (fun H locs X => ?_)
        refine lv_isub hx hb dL_areTubes_61 ?_
        refine lv_sipush (v := 1000) hx hb dL_areTubes_62 (by decide) ?_
        refine lv_imul hx hb dL_areTubes_65 ?_
        refine lv_aload_n hx hb dL_areTubes_66 rfl (lv_at hl 2 rfl) ?_
        refine lv_iload_n hx hb dL_areTubes_67 rfl (lv_at hl 1 rfl) ?_
        refine lv_iconst (v := 0) hx hb dL_areTubes_68 (by decide) ?_
        obtain ⟨x22, ex22, h1⟩ := ob_out h1
        have kx22 := m_X7_leg l D ca ar ag z P G (xs ++ ([(bw, .inl (ca 1, 3, .inl Bv17))] : va_W)) x13 0 x22 ex22 H.size
        refine z_callV K hZ X xs_fst xs_fst kx22 hl.1 2 q738 q739 q740 q16 q741 hv_X7_leg ⟨⟨Nat.le_of_ble_eq_true rfl, Nat.le_of_ble_eq_true rfl⟩, rfl, rfl⟩ (z_recvw K X (pl_glb (k := 0) (by decide)) rfl rfl) rfl rfl (Nat.le_of_ble_eq_true rfl) dL_areTubes_69 ⟨Nat.le_of_ble_eq_true rfl, Nat.le_of_ble_eq_true rfl⟩ rfl (fun H locs X => ?_)
        obtain ⟨c23, h1⟩ := if_o h1
        refine lv_idiv hx hb dL_areTubes_72 c23 ?_
        refine lv_icmp_ne (tgt := 99) hx hb dL_areTubes_73 (by decide) (fun c24 => ?_) (fun c24 => ?_)
        · have h1 := if_f c24 h1
          refine lv_iconst (v := 0) hx hb dL_areTubes_99 (by decide) ?_
          have q1 := wl_r h1 hx1
          rw [q1] at h0
          have h0 : some false = some res := h0
          have h0 := Option.some.inj h0
          subst h0
          subst hQ
          refine w_int (y := b2i false) (by decide) ?_
          exact w_zret K hr0 (hdr _ _ _ _ _ X) wC_fstx hsz (b2i_nar _) dL_areTubes_100
        · have h1 := if_t c24 h1
          refine lv_aload_n hx hb dL_areTubes_76 rfl (lv_at hl 2 rfl) ?_
          refine lv_iload_n hx hb dL_areTubes_77 rfl (lv_at hl 4 rfl) ?_
          refine lv_bipush (v := 10) hx hb dL_areTubes_78 (by decide) ?_
          obtain ⟨x25, ex25, h1⟩ := ob_out h1
          have kx25 := m_X7_tube l D ca ar ag z P G (xs ++ ([(bw, .inl (ca 1, 3, .inl Bv17))] : va_W)) z6_2 10 x25 ex25 H.size
          refine z_callV K hZ X xs_fst xs_fst kx25 hl.1 2 q710 q711 q712 q16 q713 hv_X7_tube ⟨⟨Nat.le_of_ble_eq_true rfl, Nat.le_of_ble_eq_true rfl⟩, rfl, rfl⟩ (z_recvw K X (pl_glb (k := 0) (by decide)) rfl rfl) rfl rfl (Nat.le_of_ble_eq_true rfl) dL_areTubes_80 ⟨Nat.le_of_ble_eq_true rfl, Nat.le_of_ble_eq_true rfl⟩ rfl (fun H locs X => ?_)
          refine lv_aload_n hx hb dL_areTubes_83 rfl (lv_at hl 2 rfl) ?_
          refine lv_iload_n hx hb dL_areTubes_84 rfl (lv_at hl 1 rfl) ?_
          refine lv_iconst (v := 2) hx hb dL_areTubes_85 (by decide) ?_
          obtain ⟨x26, ex26, h1⟩ := ob_out h1
          have kx26 := m_X7_leg l D ca ar ag z P G (xs ++ ([(bw, .inl (ca 1, 3, .inl Bv17))] : va_W)) x13 2 x26 ex26 H.size
          refine z_callV K hZ X xs_fst xs_fst kx26 hl.1 2 q738 q739 q740 q16 q741 hv_X7_leg ⟨⟨Nat.le_of_ble_eq_true rfl, Nat.le_of_ble_eq_true rfl⟩, rfl, rfl⟩ (z_recvw K X (pl_glb (k := 0) (by decide)) rfl rfl) rfl rfl (Nat.le_of_ble_eq_true rfl) dL_areTubes_86 ⟨Nat.le_of_ble_eq_true rfl, Nat.le_of_ble_eq_true rfl⟩ rfl (fun H locs X => ?_)
          refine lv_aload_n hx hb dL_areTubes_89 rfl (lv_at hl 2 rfl) ?_
          refine lv_iload_n hx hb dL_areTubes_90 rfl (lv_at hl 4 rfl) ?_
          refine lv_iconst (v := 2) hx hb dL_areTubes_91 (by decide) ?_
          obtain ⟨x27, ex27, h1⟩ := ob_out h1
          have kx27 := m_X7_tube l D ca ar ag z P G (xs ++ ([(bw, .inl (ca 1, 3, .inl Bv17))] : va_W)) z6_2 2 x27 ex27 H.size
          refine z_callV K hZ X xs_fst xs_fst kx27 hl.1 2 q710 q711 q712 q16 q713 hv_X7_tube ⟨⟨Nat.le_of_ble_eq_true rfl, Nat.le_of_ble_eq_true rfl⟩, rfl, rfl⟩ (z_recvw K X (pl_glb (k := 0) (by decide)) rfl rfl) rfl rfl (Nat.le_of_ble_eq_true rfl) dL_areTubes_92 ⟨Nat.le_of_ble_eq_true rfl, Nat.le_of_ble_eq_true rfl⟩ rfl (fun H locs X => ?_)
          obtain ⟨c28, h1⟩ := if_o h1
          refine lv_idiv hx hb dL_areTubes_95 c28 ?_
          refine lv_icmp_eq (tgt := 101) hx hb dL_areTubes_96 (by decide) (fun c29 => ?_) (fun c29 => ?_)
          · have h1 := if_t c29 h1
            refine lv_aload_n hx hb dL_areTubes_101 rfl (lv_at hl 2 rfl) ?_
            refine lv_iload_n hx hb dL_areTubes_102 rfl (lv_at hl 4 rfl) ?_
            refine lv_aload_n hx hb dL_areTubes_103 rfl (lv_at hl 2 rfl) ?_
            refine lv_iload_n hx hb dL_areTubes_104 rfl (lv_at hl 1 rfl) ?_
            refine lv_iconst (v := 3) hx hb dL_areTubes_105 (by decide) ?_
            obtain ⟨x30, ex30, h1⟩ := ob_out h1
            have kx30 := m_X7_leg l D ca ar ag z P G (xs ++ ([(bw, .inl (ca 1, 3, .inl Bv17))] : va_W)) x13 3 x30 ex30 H.size
            refine z_callV K hZ X xs_fst xs_fst kx30 hl.1 2 q738 q739 q740 q16 q741 hv_X7_leg ⟨⟨Nat.le_of_ble_eq_true rfl, Nat.le_of_ble_eq_true rfl⟩, rfl, rfl⟩ (z_recvw K X (pl_glb (k := 0) (by decide)) rfl rfl) rfl rfl (Nat.le_of_ble_eq_true rfl) dL_areTubes_106 ⟨Nat.le_of_ble_eq_true rfl, Nat.le_of_ble_eq_true rfl⟩ rfl (fun H locs X => ?_)
            refine lv_i2l hx hb dL_areTubes_109 rfl ?_
            obtain ⟨x31, ex31, h1⟩ := ob_out h1
            have kx31 := m_L_run l D ca ar ag z P G (xs ++ ([(bw, .inl (ca 1, 3, .inl Bv17))] : va_W)) z6_2 x30.toInt64 x31 ex31 H.size
            refine z_callS K hZ X xs_fst xs_fst kx31 hl.1 3 q748 q749 q15 q750 hs_L_run ⟨⟨Nat.le_of_ble_eq_true rfl, Nat.le_of_ble_eq_true rfl⟩, rfl, rfl⟩ rfl rfl (Nat.le_of_ble_eq_true rfl) dL_areTubes_110 ⟨Nat.le_of_ble_eq_true rfl, Nat.le_of_ble_eq_true rfl⟩ rfl (fun H locs X => ?_)
            refine lv_lstore (lv' := [(5, .long x31), (4, .int x14), (3, .int x13), (0, .ref (ag 0)), (1, .ref bw), (2, .int z6_2)]) hx hb dL_areTubes_113 hl (by decide) rfl (fun ls hl => ?_)
            refine lv_bipush (v := 100) hx hb dL_areTubes_115 (by decide) ?_
            refine lv_aload_n hx hb dL_areTubes_117 rfl (lv_at hl 3 rfl) ?_
            refine lv_iload_n hx hb dL_areTubes_118 rfl (lv_at hl 5 rfl) ?_
            refine lv_iconst (v := 4) hx hb dL_areTubes_119 (by decide) ?_
            obtain ⟨x32, ex32, h1⟩ := ob_out h1
            have kx32 := m_X7_tube l D ca ar ag z P G (xs ++ ([(bw, .inl (ca 1, 3, .inl Bv17))] : va_W)) z6_2 4 x32 ex32 H.size
            refine z_callV K hZ X xs_fst xs_fst kx32 hl.1 2 q710 q711 q712 q16 q713 hv_X7_tube ⟨⟨Nat.le_of_ble_eq_true rfl, Nat.le_of_ble_eq_true rfl⟩, rfl, rfl⟩ (z_recvw K X (pl_glb (k := 0) (by decide)) rfl rfl) rfl rfl (Nat.le_of_ble_eq_true rfl) dL_areTubes_120 ⟨Nat.le_of_ble_eq_true rfl, Nat.le_of_ble_eq_true rfl⟩ rfl (fun H locs X => ?_)
            refine lv_imul hx hb dL_areTubes_123 ?_
            obtain ⟨x33, ex33, h1⟩ := lt_out h1
            refine w_int ex33 ?_
            refine lv_istore (lv' := [(7, .int x33), (5, .long x31), (4, .int x14), (3, .int x13), (0, .ref (ag 0)), (1, .ref bw), (2, .int z6_2)]) hx hb dL_areTubes_124 hl (by decide) rfl (fun ls hl => ?_)
            refine lv_iload hx hb dL_areTubes_126 (lv_at hl 2 rfl) ?_
            refine lv_if_ne (tgt := 182) hx hb dL_areTubes_128 (by decide) (fun c34 => ?_) (fun c34 => ?_)
            · have h1 := if_f c34 h1
              refine lv_aload_n hx hb dL_areTubes_182 rfl (lv_at hl 4 rfl) ?_
              refine lv_iload_n hx hb dL_areTubes_183 rfl (lv_at hl 6 rfl) ?_
              refine lv_bipush (v := 7) hx hb dL_areTubes_184 (by decide) ?_
              obtain ⟨x35, ex35, h1⟩ := ob_out h1
              have kx35 := m_X7_tube l D ca ar ag z P G (xs ++ ([(bw, .inl (ca 1, 3, .inl Bv17))] : va_W)) z6_2 7 x35 ex35 H.size
              refine z_callV K hZ X xs_fst xs_fst kx35 hl.1 2 q710 q711 q712 q16 q713 hv_X7_tube ⟨⟨Nat.le_of_ble_eq_true rfl, Nat.le_of_ble_eq_true rfl⟩, rfl, rfl⟩ (z_recvw K X (pl_glb (k := 0) (by decide)) rfl rfl) rfl rfl (Nat.le_of_ble_eq_true rfl) dL_areTubes_186 ⟨Nat.le_of_ble_eq_true rfl, Nat.le_of_ble_eq_true rfl⟩ rfl (fun H locs X => ?_)
              refine lv_if_ne (tgt := 201) hx hb dL_areTubes_189 (by decide) (fun c36 => ?_) (fun c36 => ?_)
              · have h1 := if_f c36 h1
                refine lv_iconst (v := 0) hx hb dL_areTubes_201 (by decide) ?_
                have q1 := wl_r h1 hx1
                rw [q1] at h0
                have h0 : some false = some res := h0
                have h0 := Option.some.inj h0
                subst h0
                subst hQ
                refine w_int (y := b2i false) (by decide) ?_
                exact w_zret K hr0 (hdr _ _ _ _ _ X) wC_fstx hsz (b2i_nar _) dL_areTubes_202
              · have h1 := if_t c36 h1
                refine lv_aload_n hx hb dL_areTubes_192 rfl (lv_at hl 4 rfl) ?_
                refine lv_iload_n hx hb dL_areTubes_193 rfl (lv_at hl 6 rfl) ?_
                obtain ⟨x37, ex37, h1⟩ := ob_out h1
                have kx37 := m_X7_room l D ca ar ag z P G (xs ++ ([(bw, .inl (ca 1, 3, .inl Bv17))] : va_W)) z6_2 x37 ex37 H.size
                refine z_callV K hZ X xs_fst xs_fst kx37 hl.1 1 q752 q753 q754 q16 q755 hv_X7_room ⟨⟨Nat.le_of_ble_eq_true rfl, Nat.le_of_ble_eq_true rfl⟩, rfl, rfl⟩ (z_recvw K X (pl_glb (k := 0) (by decide)) rfl rfl) rfl rfl (Nat.le_of_ble_eq_true rfl) dL_areTubes_194 ⟨Nat.le_of_ble_eq_true rfl, Nat.le_of_ble_eq_true rfl⟩ rfl (fun H locs X => ?_)
                refine lv_iconst (v := (-1)) hx hb dL_areTubes_197 (by decide) ?_
                refine lv_icmp_eq (tgt := 203) hx hb dL_areTubes_198 (by decide) (fun c38 => ?_) (fun c38 => ?_)
                · have h1 := if_t c38 h1
                  exact J203 z6_2 Bv17 H locs X ls (lv_sub hl [4, 5, 6] rfl) h1
                · have h1 := if_f c38 h1
                  refine lv_iconst (v := 0) hx hb dL_areTubes_201 (by decide) ?_
                  have q1 := wl_r h1 hx1
                  rw [q1] at h0
                  have h0 : some false = some res := h0
                  have h0 := Option.some.inj h0
                  subst h0
                  subst hQ
                  refine w_int (y := b2i false) (by decide) ?_
                  exact w_zret K hr0 (hdr _ _ _ _ _ X) wC_fstx hsz (b2i_nar _) dL_areTubes_202
            · have h1 := if_t c34 h1
              refine lv_lload hx hb dL_areTubes_131 (lv_at hl 1 rfl) ?_
              refine lv_lconst (v := 0) hx hb dL_areTubes_133 (by decide) ?_
              refine w_blt (tgt := 201) K dL_areTubes_134 dL_areTubes_135 (by decide) (fun c44 => ?_) (fun c44 => ?_)
              · have h1 := if_t c44 h1
                refine lv_iconst (v := 0) hx hb dL_areTubes_201 (by decide) ?_
                have q1 := wl_r h1 hx1
                rw [q1] at h0
                have h0 : some false = some res := h0
                have h0 := Option.some.inj h0
                subst h0
                subst hQ
                refine w_int (y := b2i false) (by decide) ?_
                exact w_zret K hr0 (hdr _ _ _ _ _ X) wC_fstx hsz (b2i_nar _) dL_areTubes_202
              · have h1 := if_f c44 h1
                refine lv_lload hx hb dL_areTubes_138 (lv_at hl 1 rfl) ?_
                refine lv_iload hx hb dL_areTubes_140 (lv_at hl 0 rfl) ?_
                refine lv_i2l hx hb dL_areTubes_142 rfl ?_
                refine w_bgt (tgt := 201) K dL_areTubes_143 dL_areTubes_144 (by decide) (fun c45 => ?_) (fun c45 => ?_)
                · have h1 := if_t c45 h1
                  refine lv_iconst (v := 0) hx hb dL_areTubes_201 (by decide) ?_
                  have q1 := wl_r h1 hx1
                  rw [q1] at h0
                  have h0 : some false = some res := h0
                  have h0 := Option.some.inj h0
                  subst h0
                  subst hQ
                  refine w_int (y := b2i false) (by decide) ?_
                  exact w_zret K hr0 (hdr _ _ _ _ _ X) wC_fstx hsz (b2i_nar _) dL_areTubes_202
                · have h1 := if_f c45 h1
                  refine lv_aload_n hx hb dL_areTubes_147 rfl (lv_at hl 4 rfl) ?_
                  refine lv_iload_n hx hb dL_areTubes_148 rfl (lv_at hl 6 rfl) ?_
                  refine lv_bipush (v := 7) hx hb dL_areTubes_149 (by decide) ?_
                  obtain ⟨x46, ex46, h1⟩ := ob_out h1
                  have kx46 := m_X7_tube l D ca ar ag z P G (xs ++ ([(bw, .inl (ca 1, 3, .inl Bv17))] : va_W)) z6_2 7 x46 ex46 H.size
                  refine z_callV K hZ X xs_fst xs_fst kx46 hl.1 2 q710 q711 q712 q16 q713 hv_X7_tube ⟨⟨Nat.le_of_ble_eq_true rfl, Nat.le_of_ble_eq_true rfl⟩, rfl, rfl⟩ (z_recvw K X (pl_glb (k := 0) (by decide)) rfl rfl) rfl rfl (Nat.le_of_ble_eq_true rfl) dL_areTubes_151 ⟨Nat.le_of_ble_eq_true rfl, Nat.le_of_ble_eq_true rfl⟩ rfl (fun H locs X => ?_)
                  refine lv_i2l hx hb dL_areTubes_154 rfl ?_
                  refine lv_lload hx hb dL_areTubes_155 (lv_at hl 1 rfl) ?_
                  refine w_bne (tgt := 201) K dL_areTubes_157 dL_areTubes_158 (by decide) (fun c47 => ?_) (fun c47 => ?_)
                  · have h1 := if_f c47 h1
                    refine lv_iconst (v := 0) hx hb dL_areTubes_201 (by decide) ?_
                    have q1 := wl_r h1 hx1
                    rw [q1] at h0
                    have h0 : some false = some res := h0
                    have h0 := Option.some.inj h0
                    subst h0
                    subst hQ
                    refine w_int (y := b2i false) (by decide) ?_
                    exact w_zret K hr0 (hdr _ _ _ _ _ X) wC_fstx hsz (b2i_nar _) dL_areTubes_202
                  · have h1 := if_t c47 h1
                    refine lv_aload_n hx hb dL_areTubes_161 rfl (lv_at hl 4 rfl) ?_
                    refine lv_iload_n hx hb dL_areTubes_162 rfl (lv_at hl 6 rfl) ?_
                    obtain ⟨x48, ex48, h1⟩ := ob_out h1
                    have kx48 := m_X7_room l D ca ar ag z P G (xs ++ ([(bw, .inl (ca 1, 3, .inl Bv17))] : va_W)) z6_2 x48 ex48 H.size
                    refine z_callV K hZ X xs_fst xs_fst kx48 hl.1 1 q752 q753 q754 q16 q755 hv_X7_room ⟨⟨Nat.le_of_ble_eq_true rfl, Nat.le_of_ble_eq_true rfl⟩, rfl, rfl⟩ (z_recvw K X (pl_glb (k := 0) (by decide)) rfl rfl) rfl rfl (Nat.le_of_ble_eq_true rfl) dL_areTubes_163 ⟨Nat.le_of_ble_eq_true rfl, Nat.le_of_ble_eq_true rfl⟩ rfl (fun H locs X => ?_)
                    refine lv_iload hx hb dL_areTubes_166 (lv_at hl 0 rfl) ?_
                    refine lv_aload_n hx hb dL_areTubes_168 rfl (lv_at hl 4 rfl) ?_
                    refine lv_iload_n hx hb dL_areTubes_169 rfl (lv_at hl 6 rfl) ?_
                    refine lv_bipush (v := 7) hx hb dL_areTubes_170 (by decide) ?_
                    obtain ⟨x49, ex49, h1⟩ := ob_out h1
                    have kx49 := m_X7_tube l D ca ar ag z P G (xs ++ ([(bw, .inl (ca 1, 3, .inl Bv17))] : va_W)) z6_2 7 x49 ex49 H.size
                    refine z_callV K hZ X xs_fst xs_fst kx49 hl.1 2 q710 q711 q712 q16 q713 hv_X7_tube ⟨⟨Nat.le_of_ble_eq_true rfl, Nat.le_of_ble_eq_true rfl⟩, rfl, rfl⟩ (z_recvw K X (pl_glb (k := 0) (by decide)) rfl rfl) rfl rfl (Nat.le_of_ble_eq_true rfl) dL_areTubes_172 ⟨Nat.le_of_ble_eq_true rfl, Nat.le_of_ble_eq_true rfl⟩ rfl (fun H locs X => ?_)
                    refine lv_isub hx hb dL_areTubes_175 ?_
                    refine lv_icmp_eq (tgt := 203) hx hb dL_areTubes_176 (by decide) (fun c50 => ?_) (fun c50 => ?_)
                    · have h1 := if_t c50 h1
                      exact J203 z6_2 Bv17 H locs X ls (lv_sub hl [4, 5, 6] rfl) h1
                    · have h1 := if_f c50 h1
                      refine lv_goto (tgt := 201) hx hb dL_areTubes_179 (by decide) ?_
                      refine lv_iconst (v := 0) hx hb dL_areTubes_201 (by decide) ?_
                      have q1 := wl_r h1 hx1
                      rw [q1] at h0
                      have h0 : some false = some res := h0
                      have h0 := Option.some.inj h0
                      subst h0
                      subst hQ
                      refine w_int (y := b2i false) (by decide) ?_
                      exact w_zret K hr0 (hdr _ _ _ _ _ X) wC_fstx hsz (b2i_nar _) dL_areTubes_202
          · have h1 := if_f c29 h1
            refine lv_iconst (v := 0) hx hb dL_areTubes_99 (by decide) ?_
            have q1 := wl_r h1 hx1
            rw [q1] at h0
            have h0 : some false = some res := h0
            have h0 := Option.some.inj h0
            subst h0
            subst hQ
            refine w_int (y := b2i false) (by decide) ?_
            exact w_zret K hr0 (hdr _ _ _ _ _ X) wC_fstx hsz (b2i_nar _) dL_areTubes_100
  exact K6 200 0 Bv1 H locs X ls (lv_sub hl [2, 1, 0] rfl) he1
-- L_feeds
def b_L_feeds_97  (G_97 : GlbS) : Option (Int32 × GlbS) :=
  lt (G_97 7 1) fun x2 =>
  lt (sg G_97 7 1 0) fun Gv3 =>
  some (x2, Gv3)
def b_L_feeds_71 (P : RowsS) (y71_l2 : Int32) (G_71 : GlbS) (B_71 : Nat → Int32) : Option ((Int32 × GlbS) ⊕ GlbS) :=
  if 0 ≤ (0 : Int32).toInt ∧ (0 : Int32).toInt < 5 then
    if 0 ≤ (1 : Int32).toInt ∧ (1 : Int32).toInt < 5 then
      if 0 ≤ (2 : Int32).toInt ∧ (2 : Int32).toInt < 5 then
        if 0 ≤ (3 : Int32).toInt ∧ (3 : Int32).toInt < 5 then
          if 0 ≤ (4 : Int32).toInt ∧ (4 : Int32).toInt < 5 then
            ob (f_X7_feed 200 P G_71 (B_71 (0 : Int32).toNatClampNeg) (B_71 (1 : Int32).toNatClampNeg) (B_71 (2 : Int32).toNatClampNeg) (B_71 (3 : Int32).toNatClampNeg) (B_71 (4 : Int32).toNatClampNeg)) fun x11 =>
            lt (x11.2) fun Gv12 =>
            lt (y71_l2 + 20) fun x13 =>
            some (.inl (x13, Gv12))
          else none
        else none
      else none
    else none
  else none
def b_L_feeds_63  (y63_l4 : Int32) (y63_s1 : Int32) (y63_s2 : Int32) (y63_s3 : Int32) (B_63 : Nat → Int32) : Option ((Int32 × (Nat → Int32)) ⊕ (Nat → Int32)) :=
  if 0 ≤ y63_s1.toInt ∧ y63_s1.toInt < 5 then
    lt (va_up B_63 y63_s1.toNatClampNeg (y63_s2 ||| y63_s3)) fun Bv17 =>
    lt (y63_l4 + 1) fun x18 =>
    some (.inl (x18, Bv17))
  else none
def l_L_feeds_17 (z2_2 : Int32) (Gz_2 : GlbS) (z17_4 : Int32) (Bz_17 : Nat → Int32) : Option ((Int32 × (Nat → Int32)) ⊕ (Nat → Int32)) :=
  if 20 ≤ z17_4 then
    some (.inr Bz_17)
  else
    if 0 ≤ (z17_4 / 4).toInt ∧ (z17_4 / 4).toInt < 5 then
      if (Gz_2 7 1) ≤ (z2_2 + z17_4) then
        b_L_feeds_63 z17_4 (z17_4 / 4) ((Bz_17 (z17_4 / 4).toNatClampNeg) <<< ((8 : Int32) &&& 31)) 32 Bz_17
      else
        if 0 ≤ (z2_2 + z17_4).toInt ∧ (z2_2 + z17_4).toInt < 700 then
          b_L_feeds_63 z17_4 (z17_4 / 4) ((Bz_17 (z17_4 / 4).toNatClampNeg) <<< ((8 : Int32) &&& 31)) (Gz_2 8 (z2_2 + z17_4).toNatClampNeg) Bz_17
        else none
    else none
def l_L_feeds_2 (P : RowsS) (z2_2 : Int32) (Gz_2 : GlbS) : Option ((Int32 × GlbS) ⊕ GlbS) :=
  if (Gz_2 7 1) ≤ z2_2 then
    some (.inr Gz_2)
  else
    lt (fun _ => (0 : Int32)) fun Bv4 =>
    ob (wloop (fun t => l_L_feeds_17 z2_2 Gz_2 t.1 t.2) 200 (0, Bv4)) (fun t => b_L_feeds_71 P z2_2 Gz_2 t)
def f_L_feeds (P : RowsS) (G : GlbS) : Option (Int32 × GlbS) :=
  ob (wloop (fun t => l_L_feeds_2 P t.1 t.2) 200 (0, G)) (fun t => b_L_feeds_97 t)
abbrev rm_L_feeds : Room := { frames := 2, cells := 200, slots := 1000, locals := 47 }
set_option maxRecDepth 100000 in
set_option maxHeartbeats 4000000 in
theorem m_L_feeds (l : Launch) (D : va_G) (ca : Nat → ClassId) (ar : Nat → Nat → Nat) (ag : Nat → Nat) (z : ZG) (P : RowsS) (G : GlbS) (xs : va_W) (res : Int32) (G' : GlbS) (h0 : f_L_feeds P G = some (res, G')) (sz : Nat) : Met l yL_feeds (ws_ yL_feeds cL_feeds 5 (some .int)) rm_L_feeds (PCz z D ca (wC ar ag ca P G ++ xs) sz [.ref (ag 7), .ref (ag 0)]) (QMw D (wC ar ag ca P G ++ xs) (wC ar ag ca P (G') ++ xs) sz (some (.int res))) 200 1000 (AL (wC ar ag ca P G ++ xs) sz) := by
  refine met_z (by decide +kernel) (Nat.le_of_ble_eq_true rfl) (fun p e s m args below meth c K hr0 hZ X hsz ls hl => ?_)
  have K : MC D ca p s m args meth c cL_feeds 5 RL := K
  have hx := K.1
  have hb := K.2.1
  have hl : lv_has ls 5 [(0, .ref (ag 7)), (1, .ref (ag 0))] := hl
  generalize hQ : MQ below _ args s 200 1000 _ = Q
  unfold f_L_feeds at h0
  suffices Z : ∀ (H : Heap) (locs : List Loc) (X : RW D (wC ar ag ca P G ++ xs) s.heap H locs), W p l e rm_L_feeds s m args below meth c H locs 0 0 Q (F0 m 0 ls []) from Z _ _ X
  intro H locs X
  have J97 : ∀ (cx sx : Nat) (hcx : cx ≤ 200 ∧ sx ≤ 1000) (G_97 : GlbS) (H : Heap) (locs : List Loc) (X : RW D (wC ar ag ca P G_97 ++ xs) s.heap H locs) (ls : Array Slot) (hl : lv_has ls 5 [(0, .ref (ag 7))]) (h0 : b_L_feeds_97 G_97 = some (res, G')), W p l e rm_L_feeds s m args below meth c H locs cx sx Q (F0 m 97 ls []) := by
    intro cx sx hcx G_97 H locs X ls hl h0
    unfold b_L_feeds_97 at h0
    refine lv_aload_n hx hb dL_feeds_97 rfl (lv_at hl 0 rfl) ?_
    refine g_lawi K X q303 dL_feeds_98 ?_
    obtain ⟨x2, ex2, h0⟩ := lt_out h0
    refine w_int ex2 ?_
    refine lv_istore_n (lv' := [(2, .int x2), (0, .ref (ag 7))]) hx hb dL_feeds_101 rfl hl (by decide) rfl (fun ls hl => ?_)
    refine lv_aload_n hx hb dL_feeds_102 rfl (lv_at hl 1 rfl) ?_
    refine lv_iconst (v := 0) hx hb dL_feeds_103 (by decide) ?_
    obtain ⟨Gv3, eGv3, h0⟩ := lt_out h0
    refine p_lawi K X eGv3 q303 dL_feeds_104 (fun H locs X => ?_)
    refine lv_iload_n hx hb dL_feeds_107 rfl (lv_at hl 0 rfl) ?_
    have h0 := Option.some.inj h0
    obtain ⟨q_0, q_1⟩ := Prod.mk.inj h0
    subst q_0
    subst q_1
    subst hQ
    refine w_widen (k := 200) (n := 1000) (by omega) (by omega) ?_
    exact w_iret K hr0 X wC_fstx hsz dL_feeds_108
  refine lv_iconst (v := 0) hx hb dL_feeds_0 (by decide) ?_
  refine lv_istore_n (lv' := [(2, .int 0), (0, .ref (ag 7)), (1, .ref (ag 0))]) hx hb dL_feeds_1 rfl hl (by decide) rfl (fun ls hl => ?_)
  obtain ⟨e_1, he1, h0⟩ := ob_out h0
  have K2 : ∀ (k : Nat) (cl sl : Nat) (hcs : cl + k ≤ 200 ∧ sl + k * 5 ≤ 1000) (z2_2 : Int32) (Gz_2 : GlbS) (H : Heap) (locs : List Loc) (X : RW D (wC ar ag ca P Gz_2 ++ xs) s.heap H locs) (ls : Array Slot) (hl : lv_has ls 5 [(0, .ref (ag 7)), (1, .ref (ag 0)), (2, .int z2_2)]) (hw : wloop (fun t => l_L_feeds_2 P t.1 t.2) k (z2_2, Gz_2) = some e_1), W p l e rm_L_feeds s m args below meth c H locs cl sl Q (F0 m 2 ls []) := by
    intro k
    induction k with
    | zero => intro cl sl hcs z2_2 Gz_2 H locs X ls hl hw; exact (wloop_0 hw).elim
    | succ k ih1 =>
      intro cl sl hcs z2_2 Gz_2 H locs X ls hl hw
      obtain ⟨x_1, h1, hx1⟩ := wloop_out hw
      have h1 : l_L_feeds_2 P z2_2 Gz_2 = some x_1 := h1
      unfold l_L_feeds_2 at h1
      refine lv_iload_n hx hb dL_feeds_2 rfl (lv_at hl 2 rfl) ?_
      refine lv_aload_n hx hb dL_feeds_3 rfl (lv_at hl 0 rfl) ?_
      refine g_lawi K X q303 dL_feeds_4 ?_
      refine lv_icmp_ge (tgt := 97) hx hb dL_feeds_7 (by decide) (fun c1 => ?_) (fun c1 => ?_)
      · have h1 := if_t c1 h1
        have q1 := wl_r h1 hx1
        exact J97 cl sl (by omega) Gz_2 H locs X ls (lv_sub hl [0] rfl) (by rw [q1] at h0; exact h0)
      · have h1 := if_f c1 h1
        refine lv_iconst (v := 5) hx hb dL_feeds_10 (by decide) ?_
        refine z_newb K hZ X wC_fstx (N' := 5) rfl (by decide) (by decide) q90 (by show cl + 1 ≤ 200; omega) (by show sl + 5 ≤ 1000; omega) dL_feeds_11 (fun bw H hdr hzz X => ?_)
        have hZ := hzz
        obtain ⟨Bv4, eBv4, h1⟩ := lt_out h1
        rw [← eBv4] at X
        refine lv_astore_n (lv' := [(3, .ref bw), (0, .ref (ag 7)), (1, .ref (ag 0)), (2, .int z2_2)]) hx hb dL_feeds_13 rfl hl (by decide) rfl (fun ls hl => ?_)
        have J71 : ∀ (y71_l2 : Int32) (G_71 : GlbS) (B_71 : Nat → Int32) (H : Heap) (locs : List Loc) (X : RW D (wC ar ag ca P G_71 ++ (xs ++ ([(bw, .inl (ca 1, 5, .inl B_71))] : va_W))) s.heap H locs) (ls : Array Slot) (hl : lv_has ls 5 [(0, .ref (ag 7)), (1, .ref (ag 0)), (2, .int y71_l2), (3, .ref bw)]) (h1 : b_L_feeds_71 P y71_l2 G_71 B_71 = some x_1), W p l e rm_L_feeds s m args below meth c H locs (cl + 1) (sl + 5) Q (F0 m 71 ls []) := by
          intro y71_l2 G_71 B_71 H locs X ls hl h1
          unfold b_L_feeds_71 at h1
          refine lv_aload_n hx hb dL_feeds_71 rfl (lv_at hl 1 rfl) ?_
          refine lv_aload_n hx hb dL_feeds_72 rfl (lv_at hl 3 rfl) ?_
          refine lv_iconst (v := 0) hx hb dL_feeds_73 (by decide) ?_
          obtain ⟨c6, h1⟩ := if_o h1
          refine w_iald (f := B_71) K X (243 + xs.length) ctor_atw (inb_vp c6) dL_feeds_74 ?_
          refine lv_aload_n hx hb dL_feeds_75 rfl (lv_at hl 3 rfl) ?_
          refine lv_iconst (v := 1) hx hb dL_feeds_76 (by decide) ?_
          obtain ⟨c7, h1⟩ := if_o h1
          refine w_iald (f := B_71) K X (243 + xs.length) ctor_atw (inb_vp c7) dL_feeds_77 ?_
          refine lv_aload_n hx hb dL_feeds_78 rfl (lv_at hl 3 rfl) ?_
          refine lv_iconst (v := 2) hx hb dL_feeds_79 (by decide) ?_
          obtain ⟨c8, h1⟩ := if_o h1
          refine w_iald (f := B_71) K X (243 + xs.length) ctor_atw (inb_vp c8) dL_feeds_80 ?_
          refine lv_aload_n hx hb dL_feeds_81 rfl (lv_at hl 3 rfl) ?_
          refine lv_iconst (v := 3) hx hb dL_feeds_82 (by decide) ?_
          obtain ⟨c9, h1⟩ := if_o h1
          refine w_iald (f := B_71) K X (243 + xs.length) ctor_atw (inb_vp c9) dL_feeds_83 ?_
          refine lv_aload_n hx hb dL_feeds_84 rfl (lv_at hl 3 rfl) ?_
          refine lv_iconst (v := 4) hx hb dL_feeds_85 (by decide) ?_
          obtain ⟨c10, h1⟩ := if_o h1
          refine w_iald (f := B_71) K X (243 + xs.length) ctor_atw (inb_vp c10) dL_feeds_86 ?_
          obtain ⟨x11, ex11, h1⟩ := ob_out h1
          obtain ⟨Gv12, eGv12, h1⟩ := lt_out h1
          have kx11 := m_X7_feed l D ca ar ag 200 P G_71 (xs ++ ([(bw, .inl (ca 1, 5, .inl B_71))] : va_W)) (B_71 (0 : Int32).toNatClampNeg) (B_71 (1 : Int32).toNatClampNeg) (B_71 (2 : Int32).toNatClampNeg) (B_71 (3 : Int32).toNatClampNeg) (B_71 (4 : Int32).toNatClampNeg) x11.1 x11.2 ex11 H.size
          rw [← eGv12] at kx11
          refine w_callV0 K X xs_fst kx11 hl.1 5 q386 q387 q388 q16 q389 hv_X7_feed ⟨⟨Nat.le_of_ble_eq_true rfl, Nat.le_of_ble_eq_true rfl⟩, rfl, rfl⟩ (pl_glb (k := 0) (by decide)) rfl rfl rfl rfl (Nat.le_of_ble_eq_true rfl) dL_feeds_87 ⟨by show (cl + 1) ≤ 200; omega, by show (sl + 5) ≤ 1000; omega⟩ rfl (fun H locs X => ?_)
          refine lv_pop hx hb dL_feeds_90 rfl ?_
          obtain ⟨x13, ex13, h1⟩ := lt_out h1
          refine lv_iinc (v := x13) (lv' := [(2, .int x13), (0, .ref (ag 7)), (1, .ref (ag 0)), (3, .ref bw)]) hx hb dL_feeds_91 hl (k := 2) rfl (by rw [ex13]; rfl) (by decide) rfl (fun ls hl => ?_)
          refine lv_goto (tgt := 2) hx hb dL_feeds_94 (by decide) ?_
          exact ih1 (cl + 1) (sl + 5) (by omega) x13 Gv12 H locs (hdr _ _ _ _ _ X) ls (lv_sub hl [1, 2, 0] rfl) (wl_l h1 hx1)
        refine lv_iconst (v := 0) hx hb dL_feeds_14 (by decide) ?_
        refine lv_istore (lv' := [(4, .int 0), (3, .ref bw), (0, .ref (ag 7)), (1, .ref (ag 0)), (2, .int z2_2)]) hx hb dL_feeds_15 hl (by decide) rfl (fun ls hl => ?_)
        obtain ⟨e_2, he2, h1⟩ := ob_out h1
        have K17 : ∀ (k : Nat) (z17_4 : Int32) (Bz_17 : Nat → Int32) (H : Heap) (locs : List Loc) (X : RW D (wC ar ag ca P Gz_2 ++ (xs ++ ([(bw, .inl (ca 1, 5, .inl Bz_17))] : va_W))) s.heap H locs) (ls : Array Slot) (hl : lv_has ls 5 [(0, .ref (ag 7)), (1, .ref (ag 0)), (2, .int z2_2), (3, .ref bw), (4, .int z17_4)]) (hw : wloop (fun t => l_L_feeds_17 z2_2 Gz_2 t.1 t.2) k (z17_4, Bz_17) = some e_2), W p l e rm_L_feeds s m args below meth c H locs (cl + 1) (sl + 5) Q (F0 m 17 ls []) := by
          intro k
          induction k with
          | zero => intro z17_4 Bz_17 H locs X ls hl hw; exact (wloop_0 hw).elim
          | succ k ih2 =>
            intro z17_4 Bz_17 H locs X ls hl hw
            obtain ⟨x_2, h2, hx2⟩ := wloop_out hw
            have h2 : l_L_feeds_17 z2_2 Gz_2 z17_4 Bz_17 = some x_2 := h2
            unfold l_L_feeds_17 at h2
            have J63 : ∀ (y63_l4 : Int32) (y63_s1 : Int32) (y63_s2 : Int32) (y63_s3 : Int32) (B_63 : Nat → Int32) (H : Heap) (locs : List Loc) (X : RW D (wC ar ag ca P Gz_2 ++ (xs ++ ([(bw, .inl (ca 1, 5, .inl B_63))] : va_W))) s.heap H locs) (ls : Array Slot) (hl : lv_has ls 5 [(0, .ref (ag 7)), (1, .ref (ag 0)), (2, .int z2_2), (3, .ref bw), (4, .int y63_l4)]) (h2 : b_L_feeds_63 y63_l4 y63_s1 y63_s2 y63_s3 B_63 = some x_2), W p l e rm_L_feeds s m args below meth c H locs (cl + 1) (sl + 5) Q (F0 m 63 ls [.int y63_s3, .int y63_s2, .int y63_s1, .ref bw]) := by
              intro y63_l4 y63_s1 y63_s2 y63_s3 B_63 H locs X ls hl h2
              unfold b_L_feeds_63 at h2
              refine lv_ior hx hb dL_feeds_63 ?_
              obtain ⟨c16, h2⟩ := if_o h2
              obtain ⟨Bv17, eBv17, h2⟩ := lt_out h2
              refine w_iast (f := B_63) K X (243 + xs.length) ctor_atw (inb_vp c16) (b_set eBv17) dL_feeds_64 (fun H locs X => ?_)
              obtain ⟨x18, ex18, h2⟩ := lt_out h2
              refine lv_iinc (v := x18) (lv' := [(4, .int x18), (0, .ref (ag 7)), (1, .ref (ag 0)), (2, .int z2_2), (3, .ref bw)]) hx hb dL_feeds_65 hl (k := 4) rfl (by rw [ex18]; rfl) (by decide) rfl (fun ls hl => ?_)
              refine lv_goto (tgt := 17) hx hb dL_feeds_68 (by decide) ?_
              exact ih2 x18 Bv17 H locs X ls (lv_sub hl [1, 2, 3, 4, 0] rfl) (wl_l h2 hx2)
            refine lv_iload hx hb dL_feeds_17 (lv_at hl 4 rfl) ?_
            refine lv_bipush (v := 20) hx hb dL_feeds_19 (by decide) ?_
            refine lv_icmp_ge (tgt := 71) hx hb dL_feeds_21 (by decide) (fun c5 => ?_) (fun c5 => ?_)
            · have h2 := if_t c5 h2
              have q2 := wl_r h2 hx2
              exact J71 z2_2 Gz_2 Bz_17 H locs X ls (lv_sub hl [0, 1, 2, 3] rfl) (by rw [q2] at h1; exact h1)
            · have h2 := if_f c5 h2
              refine lv_aload_n hx hb dL_feeds_24 rfl (lv_at hl 3 rfl) ?_
              refine lv_iload hx hb dL_feeds_25 (lv_at hl 4 rfl) ?_
              refine lv_iconst (v := 4) hx hb dL_feeds_27 (by decide) ?_
              refine lv_idiv hx hb dL_feeds_28 (by decide) ?_
              refine lv_aload_n hx hb dL_feeds_29 rfl (lv_at hl 3 rfl) ?_
              refine lv_iload hx hb dL_feeds_30 (lv_at hl 4 rfl) ?_
              refine lv_iconst (v := 4) hx hb dL_feeds_32 (by decide) ?_
              refine lv_idiv hx hb dL_feeds_33 (by decide) ?_
              obtain ⟨c14, h2⟩ := if_o h2
              refine w_iald (f := Bz_17) K X (243 + xs.length) ctor_atw (inb_vp c14) dL_feeds_34 ?_
              refine lv_bipush (v := 8) hx hb dL_feeds_35 (by decide) ?_
              refine lv_ishl hx hb dL_feeds_37 ?_
              refine lv_iload_n hx hb dL_feeds_38 rfl (lv_at hl 2 rfl) ?_
              refine lv_iload hx hb dL_feeds_39 (lv_at hl 4 rfl) ?_
              refine lv_iadd hx hb dL_feeds_41 ?_
              refine lv_aload_n hx hb dL_feeds_42 rfl (lv_at hl 0 rfl) ?_
              refine g_lawi K X q303 dL_feeds_43 ?_
              refine lv_icmp_ge (tgt := 61) hx hb dL_feeds_46 (by decide) (fun c15 => ?_) (fun c15 => ?_)
              · have h2 := if_t c15 h2
                refine lv_bipush (v := 32) hx hb dL_feeds_61 (by decide) ?_
                exact J63 z17_4 (z17_4 / 4) ((Bz_17 (z17_4 / 4).toNatClampNeg) <<< ((8 : Int32) &&& 31)) 32 Bz_17 H locs X ls (lv_sub hl [0, 1, 2, 3, 4] rfl) h2
              · have h2 := if_f c15 h2
                refine lv_aload_n hx hb dL_feeds_49 rfl (lv_at hl 0 rfl) ?_
                refine g_lawr K X q302 dL_feeds_50 ?_
                refine lv_iload_n hx hb dL_feeds_53 rfl (lv_at hl 2 rfl) ?_
                refine lv_iload hx hb dL_feeds_54 (lv_at hl 4 rfl) ?_
                refine lv_iadd hx hb dL_feeds_56 ?_
                obtain ⟨c19, h2⟩ := if_o h2
                refine a_text K X (inb_vp c19) dL_feeds_57 ?_
                refine lv_goto (tgt := 63) hx hb dL_feeds_58 (by decide) ?_
                exact J63 z17_4 (z17_4 / 4) ((Bz_17 (z17_4 / 4).toNatClampNeg) <<< ((8 : Int32) &&& 31)) (Gz_2 8 (z2_2 + z17_4).toNatClampNeg) Bz_17 H locs X ls (lv_sub hl [0, 1, 2, 3, 4] rfl) h2
        exact K17 200 0 Bv4 H locs X ls (lv_sub hl [2, 3, 4, 1, 0] rfl) he2
  exact K2 200 0 0 (by decide) 0 G H locs X ls (lv_sub hl [1, 2, 0] rfl) he1
-- L_holds
def b_L_holds_50  (P_50 : RowsS) (G_50 : GlbS) : Option (Bool × RowsS × GlbS) :=
  ob (f_L_areTubes P_50 G_50) fun x2 =>
  if x2 = true then
    ob (f_L_isLevel P_50 G_50 0) fun x4 =>
    if x4 = true then
      ob (f_L_isLevel P_50 G_50 1) fun x6 =>
      if x6 = true then
        some (true, P_50, G_50)
      else
        some (false, P_50, G_50)
    else
      some (false, P_50, G_50)
  else
    some (false, P_50, G_50)
def l_L_holds_3 (z : ZG) (z3_2 : Int32) (Pz_3 : RowsS) (Gz_3 : GlbS) : Option ((Int32 × RowsS × GlbS) ⊕ ((RowsS × GlbS) ⊕ (Bool × RowsS × GlbS))) :=
  if 30 ≤ z3_2 then
    some (.inr (.inl (Pz_3, Gz_3)))
  else
    ob (f_L_areTubes Pz_3 Gz_3) fun x8 =>
    if x8 = true then
      ob (f_L_isLevel Pz_3 Gz_3 0) fun x10 =>
      if x10 = true then
        ob (f_L_isLevel Pz_3 Gz_3 1) fun x12 =>
        if x12 = true then
          ob (f_L_cell z z3_2) fun x14 =>
          ob (f_L_acts Pz_3 Gz_3 x14) fun x15 =>
          lt (x15.2.1) fun Pv16 =>
          lt (x15.2.2) fun Gv17 =>
          lt (x15.1) fun x18 =>
          lt (z3_2 + 1) fun x19 =>
          some (.inl (x19, Pv16, Gv17))
        else
          some (.inr (.inr (false, Pz_3, Gz_3)))
      else
        some (.inr (.inr (false, Pz_3, Gz_3)))
    else
      some (.inr (.inr (false, Pz_3, Gz_3)))
def f_L_holds (z : ZG) (P : RowsS) (G : GlbS) : Option (Bool × RowsS × GlbS) :=
  ob (wloop (fun t => l_L_holds_3 z t.1 t.2.1 t.2.2) 200 (12, P, G)) (fun t => match t with | .inl t => b_L_holds_50 t.1 t.2 | .inr r => some r)
abbrev rm_L_holds : Room := { frames := 8, cells := 201, slots := 603, locals := 215 }
set_option maxRecDepth 100000 in
set_option maxHeartbeats 4000000 in
theorem m_L_holds (l : Launch) (D : va_G) (ca : Nat → ClassId) (ar : Nat → Nat → Nat) (ag : Nat → Nat) (z : ZG) (P : RowsS) (G : GlbS) (xs : va_W) (res : Bool) (P' : RowsS) (G' : GlbS) (h0 : f_L_holds z P G = some (res, P', G')) (sz : Nat) : Met l yL_holds (ws_ yL_holds cL_holds 4 (some .boolean)) rm_L_holds (PCz z D ca (wC ar ag ca P G ++ xs) sz [.ref (ag 0), .ref z.2.2.1]) (QMw D (wC ar ag ca P G ++ xs) (wC ar ag ca (P') (G') ++ xs) sz (some (.int (b2i res)))) 201 603 (AL (wC ar ag ca P G ++ xs) sz) := by
  refine met_z (by decide +kernel) (Nat.le_of_ble_eq_true rfl) (fun p e s m args below meth c K hr0 hZ X hsz ls hl => ?_)
  have K : MC D ca p s m args meth c cL_holds 4 RL := K
  have hx := K.1
  have hb := K.2.1
  have hl : lv_has ls 4 [(0, .ref (ag 0)), (1, .ref z.2.2.1)] := hl
  generalize hQ : MQ below _ args s 201 603 _ = Q
  unfold f_L_holds at h0
  suffices Z : ∀ (H : Heap) (locs : List Loc) (X : RW D (wC ar ag ca P G ++ xs) s.heap H locs), W p l e rm_L_holds s m args below meth c H locs 0 0 Q (F0 m 0 ls []) from Z _ _ X
  intro H locs X
  have J50 : ∀ (cx sx : Nat) (hcx : cx ≤ 200 ∧ sx ≤ 600) (P_50 : RowsS) (G_50 : GlbS) (H : Heap) (locs : List Loc) (X : RW D (wC ar ag ca P_50 G_50 ++ xs) s.heap H locs) (ls : Array Slot) (hl : lv_has ls 4 [(0, .ref (ag 0))]) (h0 : b_L_holds_50 P_50 G_50 = some (res, P', G')), W p l e rm_L_holds s m args below meth c H locs cx sx Q (F0 m 50 ls []) := by
    intro cx sx hcx P_50 G_50 H locs X ls hl h0
    unfold b_L_holds_50 at h0
    refine lv_aload_n hx hb dL_holds_50 rfl (lv_at hl 0 rfl) ?_
    obtain ⟨x2, ex2, h0⟩ := ob_out h0
    have kx2 := m_L_areTubes l D ca ar ag z P_50 G_50 xs x2 ex2 H.size
    refine z_callSg K hZ X wC_fstx wC_fstx kx2 hl.1 1 q707 q708 q15 q709 hs_L_areTubes ⟨⟨Nat.le_of_ble_eq_true rfl, Nat.le_of_ble_eq_true rfl⟩, rfl, rfl⟩ rfl rfl (Nat.le_of_ble_eq_true rfl) dL_holds_51 ⟨by show cx + 1 ≤ 201; omega, by show sx + 3 ≤ 603; omega⟩ rfl (fun H locs X => ?_)
    refine w_zeq (tgt := 77) K dL_holds_54 (by decide) (fun c3 => ?_) (fun c3 => ?_)
    · have h0 := if_f c3 h0
      refine lv_iconst (v := 0) hx hb dL_holds_77 (by decide) ?_
      have h0 := Option.some.inj h0
      obtain ⟨q_0, h0⟩ := Prod.mk.inj h0
      obtain ⟨q_1, q_2⟩ := Prod.mk.inj h0
      subst q_0
      subst q_1
      subst q_2
      subst hQ
      refine w_int (y := b2i false) (by decide) ?_
      refine w_widen (k := 201) (n := 603) (by omega) (by omega) ?_
      exact w_zret K hr0 X wC_fstx hsz (b2i_nar _) dL_holds_78
    · have h0 := if_t c3 h0
      refine lv_aload_n hx hb dL_holds_57 rfl (lv_at hl 0 rfl) ?_
      refine lv_iconst (v := 0) hx hb dL_holds_58 (by decide) ?_
      obtain ⟨x4, ex4, h0⟩ := ob_out h0
      have kx4 := m_L_isLevel l D ca ar ag z P_50 G_50 xs 0 x4 ex4 H.size
      refine z_callS K hZ X wC_fstx wC_fstx kx4 hl.1 2 q758 q759 q15 q760 hs_L_isLevel ⟨⟨Nat.le_of_ble_eq_true rfl, Nat.le_of_ble_eq_true rfl⟩, rfl, rfl⟩ rfl rfl (Nat.le_of_ble_eq_true rfl) dL_holds_59 ⟨by show (cx + 1) ≤ 201; omega, by show (sx + 3) ≤ 603; omega⟩ rfl (fun H locs X => ?_)
      refine w_zeq (tgt := 77) K dL_holds_62 (by decide) (fun c5 => ?_) (fun c5 => ?_)
      · have h0 := if_f c5 h0
        refine lv_iconst (v := 0) hx hb dL_holds_77 (by decide) ?_
        have h0 := Option.some.inj h0
        obtain ⟨q_0, h0⟩ := Prod.mk.inj h0
        obtain ⟨q_1, q_2⟩ := Prod.mk.inj h0
        subst q_0
        subst q_1
        subst q_2
        subst hQ
        refine w_int (y := b2i false) (by decide) ?_
        refine w_widen (k := 201) (n := 603) (by omega) (by omega) ?_
        exact w_zret K hr0 X wC_fstx hsz (b2i_nar _) dL_holds_78
      · have h0 := if_t c5 h0
        refine lv_aload_n hx hb dL_holds_65 rfl (lv_at hl 0 rfl) ?_
        refine lv_iconst (v := 1) hx hb dL_holds_66 (by decide) ?_
        obtain ⟨x6, ex6, h0⟩ := ob_out h0
        have kx6 := m_L_isLevel l D ca ar ag z P_50 G_50 xs 1 x6 ex6 H.size
        refine z_callS K hZ X wC_fstx wC_fstx kx6 hl.1 2 q758 q759 q15 q760 hs_L_isLevel ⟨⟨Nat.le_of_ble_eq_true rfl, Nat.le_of_ble_eq_true rfl⟩, rfl, rfl⟩ rfl rfl (Nat.le_of_ble_eq_true rfl) dL_holds_67 ⟨by show (cx + 1) ≤ 201; omega, by show (sx + 3) ≤ 603; omega⟩ rfl (fun H locs X => ?_)
        refine w_zeq (tgt := 77) K dL_holds_70 (by decide) (fun c7 => ?_) (fun c7 => ?_)
        · have h0 := if_f c7 h0
          refine lv_iconst (v := 0) hx hb dL_holds_77 (by decide) ?_
          have h0 := Option.some.inj h0
          obtain ⟨q_0, h0⟩ := Prod.mk.inj h0
          obtain ⟨q_1, q_2⟩ := Prod.mk.inj h0
          subst q_0
          subst q_1
          subst q_2
          subst hQ
          refine w_int (y := b2i false) (by decide) ?_
          refine w_widen (k := 201) (n := 603) (by omega) (by omega) ?_
          exact w_zret K hr0 X wC_fstx hsz (b2i_nar _) dL_holds_78
        · have h0 := if_t c7 h0
          refine lv_iconst (v := 1) hx hb dL_holds_73 (by decide) ?_
          refine lv_goto (tgt := 78) hx hb dL_holds_74 (by decide) ?_
          have h0 := Option.some.inj h0
          obtain ⟨q_0, h0⟩ := Prod.mk.inj h0
          obtain ⟨q_1, q_2⟩ := Prod.mk.inj h0
          subst q_0
          subst q_1
          subst q_2
          subst hQ
          refine w_int (y := b2i true) (by decide) ?_
          refine w_widen (k := 201) (n := 603) (by omega) (by omega) ?_
          exact w_zret K hr0 X wC_fstx hsz (b2i_nar _) dL_holds_78
  refine lv_bipush (v := 12) hx hb dL_holds_0 (by decide) ?_
  refine lv_istore_n (lv' := [(2, .int 12), (0, .ref (ag 0)), (1, .ref z.2.2.1)]) hx hb dL_holds_2 rfl hl (by decide) rfl (fun ls hl => ?_)
  obtain ⟨e_1, he1, h0⟩ := ob_out h0
  have K3 : ∀ (k : Nat) (cl sl : Nat) (hcs : cl + k ≤ 200 ∧ sl + k * 3 ≤ 600) (z3_2 : Int32) (Pz_3 : RowsS) (Gz_3 : GlbS) (H : Heap) (locs : List Loc) (X : RW D (wC ar ag ca Pz_3 Gz_3 ++ xs) s.heap H locs) (ls : Array Slot) (hl : lv_has ls 4 [(0, .ref (ag 0)), (1, .ref z.2.2.1), (2, .int z3_2)]) (hw : wloop (fun t => l_L_holds_3 z t.1 t.2.1 t.2.2) k (z3_2, Pz_3, Gz_3) = some e_1), W p l e rm_L_holds s m args below meth c H locs cl sl Q (F0 m 3 ls []) := by
    intro k
    induction k with
    | zero => intro cl sl hcs z3_2 Pz_3 Gz_3 H locs X ls hl hw; exact (wloop_0 hw).elim
    | succ k ih1 =>
      intro cl sl hcs z3_2 Pz_3 Gz_3 H locs X ls hl hw
      obtain ⟨x_1, h1, hx1⟩ := wloop_out hw
      have h1 : l_L_holds_3 z z3_2 Pz_3 Gz_3 = some x_1 := h1
      unfold l_L_holds_3 at h1
      refine lv_iload_n hx hb dL_holds_3 rfl (lv_at hl 2 rfl) ?_
      refine lv_bipush (v := 30) hx hb dL_holds_4 (by decide) ?_
      refine lv_icmp_ge (tgt := 50) hx hb dL_holds_6 (by decide) (fun c1 => ?_) (fun c1 => ?_)
      · have h1 := if_t c1 h1
        have q1 := wl_r h1 hx1
        exact J50 cl sl (by omega) Pz_3 Gz_3 H locs X ls (lv_sub hl [0] rfl) (by rw [q1] at h0; exact h0)
      · have h1 := if_f c1 h1
        refine lv_aload_n hx hb dL_holds_9 rfl (lv_at hl 0 rfl) ?_
        obtain ⟨x8, ex8, h1⟩ := ob_out h1
        have kx8 := m_L_areTubes l D ca ar ag z Pz_3 Gz_3 xs x8 ex8 H.size
        refine z_callSg K hZ X wC_fstx wC_fstx kx8 hl.1 1 q707 q708 q15 q709 hs_L_areTubes ⟨⟨Nat.le_of_ble_eq_true rfl, Nat.le_of_ble_eq_true rfl⟩, rfl, rfl⟩ rfl rfl (Nat.le_of_ble_eq_true rfl) dL_holds_10 ⟨by show cl + 1 ≤ 201; omega, by show sl + 3 ≤ 603; omega⟩ rfl (fun H locs X => ?_)
        refine w_zeq (tgt := 32) K dL_holds_13 (by decide) (fun c9 => ?_) (fun c9 => ?_)
        · have h1 := if_f c9 h1
          refine lv_iconst (v := 0) hx hb dL_holds_32 (by decide) ?_
          have q1 := wl_r h1 hx1
          rw [q1] at h0
          have h0 : some (false, Pz_3, Gz_3) = some (res, P', G') := h0
          have h0 := Option.some.inj h0
          obtain ⟨q_0, h0⟩ := Prod.mk.inj h0
          obtain ⟨q_1, q_2⟩ := Prod.mk.inj h0
          subst q_0
          subst q_1
          subst q_2
          subst hQ
          refine w_int (y := b2i false) (by decide) ?_
          refine w_widen (k := 201) (n := 603) (by omega) (by omega) ?_
          exact w_zret K hr0 X wC_fstx hsz (b2i_nar _) dL_holds_33
        · have h1 := if_t c9 h1
          refine lv_aload_n hx hb dL_holds_16 rfl (lv_at hl 0 rfl) ?_
          refine lv_iconst (v := 0) hx hb dL_holds_17 (by decide) ?_
          obtain ⟨x10, ex10, h1⟩ := ob_out h1
          have kx10 := m_L_isLevel l D ca ar ag z Pz_3 Gz_3 xs 0 x10 ex10 H.size
          refine z_callS K hZ X wC_fstx wC_fstx kx10 hl.1 2 q758 q759 q15 q760 hs_L_isLevel ⟨⟨Nat.le_of_ble_eq_true rfl, Nat.le_of_ble_eq_true rfl⟩, rfl, rfl⟩ rfl rfl (Nat.le_of_ble_eq_true rfl) dL_holds_18 ⟨by show (cl + 1) ≤ 201; omega, by show (sl + 3) ≤ 603; omega⟩ rfl (fun H locs X => ?_)
          refine w_zeq (tgt := 32) K dL_holds_21 (by decide) (fun c11 => ?_) (fun c11 => ?_)
          · have h1 := if_f c11 h1
            refine lv_iconst (v := 0) hx hb dL_holds_32 (by decide) ?_
            have q1 := wl_r h1 hx1
            rw [q1] at h0
            have h0 : some (false, Pz_3, Gz_3) = some (res, P', G') := h0
            have h0 := Option.some.inj h0
            obtain ⟨q_0, h0⟩ := Prod.mk.inj h0
            obtain ⟨q_1, q_2⟩ := Prod.mk.inj h0
            subst q_0
            subst q_1
            subst q_2
            subst hQ
            refine w_int (y := b2i false) (by decide) ?_
            refine w_widen (k := 201) (n := 603) (by omega) (by omega) ?_
            exact w_zret K hr0 X wC_fstx hsz (b2i_nar _) dL_holds_33
          · have h1 := if_t c11 h1
            refine lv_aload_n hx hb dL_holds_24 rfl (lv_at hl 0 rfl) ?_
            refine lv_iconst (v := 1) hx hb dL_holds_25 (by decide) ?_
            obtain ⟨x12, ex12, h1⟩ := ob_out h1
            have kx12 := m_L_isLevel l D ca ar ag z Pz_3 Gz_3 xs 1 x12 ex12 H.size
            refine z_callS K hZ X wC_fstx wC_fstx kx12 hl.1 2 q758 q759 q15 q760 hs_L_isLevel ⟨⟨Nat.le_of_ble_eq_true rfl, Nat.le_of_ble_eq_true rfl⟩, rfl, rfl⟩ rfl rfl (Nat.le_of_ble_eq_true rfl) dL_holds_26 ⟨by show (cl + 1) ≤ 201; omega, by show (sl + 3) ≤ 603; omega⟩ rfl (fun H locs X => ?_)
            refine w_zne (tgt := 34) K dL_holds_29 (by decide) (fun c13 => ?_) (fun c13 => ?_)
            · have h1 := if_t c13 h1
              refine lv_aload_n hx hb dL_holds_34 rfl (lv_at hl 0 rfl) ?_
              refine lv_aload_n hx hb dL_holds_35 rfl (lv_at hl 1 rfl) ?_
              refine lv_iload_n hx hb dL_holds_36 rfl (lv_at hl 2 rfl) ?_
              obtain ⟨x14, ex14, h1⟩ := ob_out h1
              have kx14 := m_L_cell l D ca z (wC ar ag ca Pz_3 Gz_3 ++ xs) z3_2 x14 ex14 H.size
              refine z_callS K hZ X wC_fstx wC_fstx kx14 hl.1 2 q313 q314 q15 q315 hs_L_cell ⟨⟨Nat.le_of_ble_eq_true rfl, Nat.le_of_ble_eq_true rfl⟩, rfl, rfl⟩ rfl rfl (Nat.le_of_ble_eq_true rfl) dL_holds_37 ⟨by show (cl + 1) ≤ 201; omega, by show (sl + 3) ≤ 603; omega⟩ rfl (fun H locs X => ?_)
              obtain ⟨x15, ex15, h1⟩ := ob_out h1
              obtain ⟨Pv16, ePv16, h1⟩ := lt_out h1
              obtain ⟨Gv17, eGv17, h1⟩ := lt_out h1
              have kx15 := m_L_acts l D ca ar ag z Pz_3 Gz_3 xs x14 x15.1 x15.2.1 x15.2.2 ex15 H.size
              rw [← ePv16, ← eGv17] at kx15
              refine z_callS K hZ X wC_fstx wC_fstx kx15 hl.1 2 q770 q771 q15 q772 hs_L_acts ⟨⟨Nat.le_of_ble_eq_true rfl, Nat.le_of_ble_eq_true rfl⟩, rfl, rfl⟩ rfl rfl (Nat.le_of_ble_eq_true rfl) dL_holds_40 ⟨by show (cl + 1) ≤ 201; omega, by show (sl + 3) ≤ 603; omega⟩ rfl (fun H locs X => ?_)
              obtain ⟨x18, ex18, h1⟩ := lt_out h1
              refine w_int ex18 ?_
              refine lv_istore_n (lv' := [(3, .int x18), (0, .ref (ag 0)), (1, .ref z.2.2.1), (2, .int z3_2)]) hx hb dL_holds_43 rfl hl (by decide) rfl (fun ls hl => ?_)
              obtain ⟨x19, ex19, h1⟩ := lt_out h1
              refine lv_iinc (v := x19) (lv' := [(2, .int x19), (3, .int x18), (0, .ref (ag 0)), (1, .ref z.2.2.1)]) hx hb dL_holds_44 hl (k := 3) rfl (by rw [ex19]; rfl) (by decide) rfl (fun ls hl => ?_)
              refine lv_goto (tgt := 3) hx hb dL_holds_47 (by decide) ?_
              exact ih1 (cl + 1) (sl + 3) (by omega) x19 Pv16 Gv17 H locs X ls (lv_sub hl [2, 3, 0] rfl) (wl_l h1 hx1)
            · have h1 := if_f c13 h1
              refine lv_iconst (v := 0) hx hb dL_holds_32 (by decide) ?_
              have q1 := wl_r h1 hx1
              rw [q1] at h0
              have h0 : some (false, Pz_3, Gz_3) = some (res, P', G') := h0
              have h0 := Option.some.inj h0
              obtain ⟨q_0, h0⟩ := Prod.mk.inj h0
              obtain ⟨q_1, q_2⟩ := Prod.mk.inj h0
              subst q_0
              subst q_1
              subst q_2
              subst hQ
              refine w_int (y := b2i false) (by decide) ?_
              refine w_widen (k := 201) (n := 603) (by omega) (by omega) ?_
              exact w_zret K hr0 X wC_fstx hsz (b2i_nar _) dL_holds_33
  exact K3 200 0 0 (by decide) 12 P G H locs X ls (lv_sub hl [1, 2, 0] rfl) he1
-- L_loads
def b_L_loads_344  (y344_l4 : Int32) (y344_l5 : Int32) (P_344 : RowsS) (G_344 : GlbS) : Option (Bool × RowsS × GlbS) :=
  ob (f_L_feeds P_344 G_344) fun x15 =>
  lt (x15.2) fun Gv16 =>
  ob (f_X7_load 200 P_344 Gv16 x15.1) fun x17 =>
  lt (x17.2.1) fun Pv18 =>
  lt (x17.2.2) fun Gv19 =>
  lt (x17.1) fun x20 =>
  if x20 < 0 then
    some (false, Pv18, Gv19)
  else
    lt (f_X7_errorPosition Pv18 Gv19) fun x22 =>
    if x22 = (-1) then
      ob (f_X7_size 200 Pv18 Gv19 0) fun x24 =>
      if x24 = y344_l4 then
        ob (f_X7_size 200 Pv18 Gv19 2) fun x26 =>
        if x26 = y344_l5 then
          ob (f_X7_size 200 Pv18 Gv19 3) fun x28 =>
          if x28 = x20 then
            ob (f_X7_size 200 Pv18 Gv19 3) fun x30 =>
            ob (f_X7_size 200 Pv18 Gv19 4) fun x31 =>
            ob (f_X7_size 200 Pv18 Gv19 5) fun x32 =>
            if ((x30 + x31) + x32) = y344_l5 then
              ob (f_X7_size 200 Pv18 Gv19 6) fun x34 =>
              ob (f_X7_size 200 Pv18 Gv19 7) fun x35 =>
              if (x34 + x35) = y344_l5 then
                some (true, Pv18, Gv19)
              else
                some (false, Pv18, Gv19)
            else
              some (false, Pv18, Gv19)
          else
            some (false, Pv18, Gv19)
        else
          some (false, Pv18, Gv19)
      else
        some (false, Pv18, Gv19)
    else
      some (false, Pv18, Gv19)
def b_L_loads_332 (P_201 : RowsS) (y332_l6 : Int32) (G_332 : GlbS) : Option ((Int32 × GlbS) ⊕ GlbS) :=
  ob (f_L_writes P_201 G_332 3) fun x52 =>
  lt (x52) fun Gv53 =>
  lt (y332_l6 + 1) fun x54 =>
  some (.inl (x54, Gv53))
def l_L_loads_213 (z : ZG) (y201_l4 : Int32) (P_201 : RowsS) (x13 : Int32) (z213_6 : Int32) (Gz_213 : GlbS) : Option ((Int32 × GlbS) ⊕ GlbS) :=
  if x13 ≤ z213_6 then
    some (.inr Gz_213)
  else
    ob (f_L_cell z (4 + z213_6)) fun x37 =>
    ob (f_L_writes P_201 Gz_213 6) fun x38 =>
    lt (x38) fun Gv39 =>
    ob (f_L_spaced P_201 Gv39 (x37 - x37 / 2 * 2)) fun x40 =>
    lt (x40) fun Gv41 =>
    if ¬ y201_l4 = 0 then
      ob (f_L_spaced P_201 Gv41 ((x37 / 2) - (x37 / 2) / y201_l4 * y201_l4)) fun x43 =>
      lt (x43) fun Gv44 =>
      ob (f_L_spaced P_201 Gv44 (1 + ((x37 / 16) - (x37 / 16) / 10 * 10))) fun x45 =>
      lt (x45) fun Gv46 =>
      ob (f_L_spaced P_201 Gv46 (50 + ((x37 / 160) - (x37 / 160) / 951 * 951))) fun x47 =>
      lt (x47) fun Gv48 =>
      ob (f_L_spaced P_201 Gv48 (100 + ((x37 / 200000) - (x37 / 200000) / 1900 * 1900))) fun x49 =>
      lt (x49) fun Gv50 =>
      if (x37 - x37 / 3 * 3) = 0 then
        ob (f_L_writes P_201 Gv50 7) fun x55 =>
        lt (x55) fun Gv56 =>
        ob (f_L_spaced P_201 Gv56 (((x37 / 7) - (x37 / 7) / 401 * 401) - 200)) fun x57 =>
        lt (x57) fun Gv58 =>
        b_L_loads_332 P_201 z213_6 Gv58
      else
        b_L_loads_332 P_201 z213_6 Gv50
    else none
def b_L_loads_201 (z : ZG) (y201_l3 : Int32) (y201_l4 : Int32) (P_201 : RowsS) (G_201 : GlbS) : Option (Bool × RowsS × GlbS) :=
  lt ((y201_l3 / 12) - (y201_l3 / 12) / 8 * 8) fun x13 =>
  ob (wloop (fun t => l_L_loads_213 z y201_l4 P_201 x13 t.1 t.2) 200 (0, G_201)) (fun t => b_L_loads_344 y201_l4 x13 P_201 t)
def l_L_loads_145 (z : ZG) (y142_l4 : Int32) (P_142 : RowsS) (z145_5 : Int32) (Gz_145 : GlbS) : Option ((Int32 × GlbS) ⊕ GlbS) :=
  if y142_l4 ≤ z145_5 then
    some (.inr Gz_145)
  else
    ob (f_L_writes P_142 Gz_145 5) fun x59 =>
    lt (x59) fun Gv60 =>
    ob (f_L_spaced P_142 Gv60 z145_5) fun x61 =>
    lt (x61) fun Gv62 =>
    ob (f_L_cell z 3) fun x63 =>
    if ¬ (1 + z145_5) = 0 then
      ob (f_L_spaced P_142 Gv62 ((50000 - ((x63 / (1 + z145_5)) - (x63 / (1 + z145_5)) / 2000 * 2000)) + 200)) fun x65 =>
      lt (x65) fun Gv66 =>
      ob (f_L_writes P_142 Gv66 3) fun x67 =>
      lt (x67) fun Gv68 =>
      lt (z145_5 + 1) fun x69 =>
      some (.inl (x69, Gv68))
    else none
def b_L_loads_142 (z : ZG) (y142_l3 : Int32) (y142_l4 : Int32) (P_142 : RowsS) (G_142 : GlbS) : Option (Bool × RowsS × GlbS) :=
  ob (wloop (fun t => l_L_loads_145 z y142_l4 P_142 t.1 t.2) 200 (0, G_142)) (fun t => b_L_loads_201 z y142_l3 y142_l4 P_142 t)
def b_L_loads_127 (P : RowsS) (y127_l5 : Int32) (y127_s1 : Int32) (G_127 : GlbS) : Option ((Int32 × GlbS) ⊕ GlbS) :=
  ob (f_L_spaced P G_127 y127_s1) fun x80 =>
  lt (x80) fun Gv81 =>
  ob (f_L_writes P Gv81 3) fun x82 =>
  lt (x82) fun Gv83 =>
  lt (y127_l5 + 1) fun x84 =>
  some (.inl (x84, Gv83))
def l_L_loads_40 (z : ZG) (P : RowsS) (x1 : Int32) (z40_5 : Int32) (Gz_40 : GlbS) : Option ((Int32 × GlbS) ⊕ GlbS) :=
  if 2 ≤ z40_5 then
    some (.inr Gz_40)
  else
    ob (f_L_cell z (1 + z40_5)) fun x70 =>
    ob (f_L_writes P Gz_40 4) fun x71 =>
    lt (x71) fun Gv72 =>
    ob (f_L_spaced P Gv72 z40_5) fun x73 =>
    lt (x73) fun Gv74 =>
    ob (f_L_spaced P Gv74 (500 + (x70 - x70 / 3000 * 3000))) fun x75 =>
    lt (x75) fun Gv76 =>
    ob (f_L_spaced P Gv76 (1000 + ((x70 / 3000) - (x70 / 3000) / 30000 * 30000))) fun x77 =>
    lt (x77) fun Gv78 =>
    if ((x1 / 4) - (x1 / 4) / 3 * 3) = 0 then
      b_L_loads_127 P z40_5 (((x70 / 1000) - (x70 / 1000) / 2001 * 2001) - 1000) Gv78
    else
      b_L_loads_127 P z40_5 0 Gv78
def f_L_loads (z : ZG) (P : RowsS) (G : GlbS) : Option (Bool × RowsS × GlbS) :=
  ob (f_L_cell z 0) fun x1 =>
  lt (2 + (x1 - x1 / 4 * 4)) fun x2 =>
  ob (f_L_writes P G 0) fun x3 =>
  lt (x3) fun Gv4 =>
  ob (f_L_spaced P Gv4 x2) fun x5 =>
  lt (x5) fun Gv6 =>
  ob (f_L_spaced P Gv6 50000) fun x7 =>
  lt (x7) fun Gv8 =>
  ob (f_L_writes P Gv8 3) fun x9 =>
  lt (x9) fun Gv10 =>
  ob (wloop (fun t => l_L_loads_40 z P x1 t.1 t.2) 200 (0, Gv10)) (fun t => b_L_loads_142 z x1 x2 P t)
abbrev rm_L_loads : Room := { frames := 9, cells := 201, slots := 1002, locals := 222 }
set_option maxRecDepth 100000 in
set_option maxHeartbeats 4000000 in
theorem m_L_loads (l : Launch) (D : va_G) (ca : Nat → ClassId) (ar : Nat → Nat → Nat) (ag : Nat → Nat) (z : ZG) (P : RowsS) (G : GlbS) (xs : va_W) (res : Bool) (P' : RowsS) (G' : GlbS) (h0 : f_L_loads z P G = some (res, P', G')) (sz : Nat) : Met l yL_loads (ws_ yL_loads cL_loads 8 (some .boolean)) rm_L_loads (PCz z D ca (wC ar ag ca P G ++ xs) sz [.ref (ag 7), .ref (ag 0), .ref z.2.2.1]) (QMw D (wC ar ag ca P G ++ xs) (wC ar ag ca (P') (G') ++ xs) sz (some (.int (b2i res)))) 201 1002 (AL (wC ar ag ca P G ++ xs) sz) := by
  refine met_z (by decide +kernel) (Nat.le_of_ble_eq_true rfl) (fun p e s m args below meth c K hr0 hZ X hsz ls hl => ?_)
  have K : MC D ca p s m args meth c cL_loads 8 RL := K
  have hx := K.1
  have hb := K.2.1
  have hl : lv_has ls 8 [(0, .ref (ag 7)), (1, .ref (ag 0)), (2, .ref z.2.2.1)] := hl
  generalize hQ : MQ below _ args s 201 1002 _ = Q
  unfold f_L_loads at h0
  suffices Z : ∀ (H : Heap) (locs : List Loc) (X : RW D (wC ar ag ca P G ++ xs) s.heap H locs), W p l e rm_L_loads s m args below meth c H locs 0 0 Q (F0 m 0 ls []) from Z _ _ X
  intro H locs X
  have J344 : ∀ (y344_l4 : Int32) (y344_l5 : Int32) (P_344 : RowsS) (G_344 : GlbS) (H : Heap) (locs : List Loc) (X : RW D (wC ar ag ca P_344 G_344 ++ xs) s.heap H locs) (ls : Array Slot) (hl : lv_has ls 8 [(0, .ref (ag 7)), (1, .ref (ag 0)), (4, .int y344_l4), (5, .int y344_l5)]) (h0 : b_L_loads_344 y344_l4 y344_l5 P_344 G_344 = some (res, P', G')), W p l e rm_L_loads s m args below meth c H locs 0 0 Q (F0 m 344 ls []) := by
    intro y344_l4 y344_l5 P_344 G_344 H locs X ls hl h0
    unfold b_L_loads_344 at h0
    refine lv_aload_n hx hb dL_loads_344 rfl (lv_at hl 1 rfl) ?_
    refine lv_aload_n hx hb dL_loads_345 rfl (lv_at hl 0 rfl) ?_
    refine lv_aload_n hx hb dL_loads_346 rfl (lv_at hl 1 rfl) ?_
    obtain ⟨x15, ex15, h0⟩ := ob_out h0
    obtain ⟨Gv16, eGv16, h0⟩ := lt_out h0
    have kx15 := m_L_feeds l D ca ar ag z P_344 G_344 xs x15.1 x15.2 ex15 H.size
    rw [← eGv16] at kx15
    refine z_callVg K hZ X wC_fstx wC_fstx kx15 hl.1 1 q382 q384 q3 q15 q385 hv_L_feeds ⟨⟨Nat.le_of_ble_eq_true rfl, Nat.le_of_ble_eq_true rfl⟩, rfl, rfl⟩ (z_recvw K X (pl_glb (k := 7) (by decide)) rfl rfl) rfl rfl (Nat.le_of_ble_eq_true rfl) dL_loads_347 ⟨Nat.le_of_ble_eq_true rfl, Nat.le_of_ble_eq_true rfl⟩ rfl (fun H locs X => ?_)
    obtain ⟨x17, ex17, h0⟩ := ob_out h0
    obtain ⟨Pv18, ePv18, h0⟩ := lt_out h0
    obtain ⟨Gv19, eGv19, h0⟩ := lt_out h0
    have kx17 := m_X7_load l D ca ar ag z 200 P_344 Gv16 xs x15.1 x17.1 x17.2.1 x17.2.2 ex17 H.size
    rw [← ePv18, ← eGv19] at kx17
    refine z_callVg K hZ X wC_fstx wC_fstx kx17 hl.1 1 q398 q399 q400 q16 q401 hv_X7_load ⟨⟨Nat.le_of_ble_eq_true rfl, Nat.le_of_ble_eq_true rfl⟩, rfl, rfl⟩ (z_recvw K X (pl_glb (k := 0) (by decide)) rfl rfl) rfl rfl (Nat.le_of_ble_eq_true rfl) dL_loads_350 ⟨Nat.le_of_ble_eq_true rfl, Nat.le_of_ble_eq_true rfl⟩ rfl (fun H locs X => ?_)
    obtain ⟨x20, ex20, h0⟩ := lt_out h0
    refine w_int ex20 ?_
    refine lv_istore (lv' := [(6, .int x20), (0, .ref (ag 7)), (1, .ref (ag 0)), (4, .int y344_l4), (5, .int y344_l5)]) hx hb dL_loads_353 hl (by decide) rfl (fun ls hl => ?_)
    refine lv_iload hx hb dL_loads_355 (lv_at hl 0 rfl) ?_
    refine lv_if_lt (tgt := 442) hx hb dL_loads_357 (by decide) (fun c21 => ?_) (fun c21 => ?_)
    · have h0 := if_t c21 h0
      refine lv_iconst (v := 0) hx hb dL_loads_442 (by decide) ?_
      have h0 := Option.some.inj h0
      obtain ⟨q_0, h0⟩ := Prod.mk.inj h0
      obtain ⟨q_1, q_2⟩ := Prod.mk.inj h0
      subst q_0
      subst q_1
      subst q_2
      subst hQ
      refine w_int (y := b2i false) (by decide) ?_
      exact w_zret K hr0 X wC_fstx hsz (b2i_nar _) dL_loads_443
    · have h0 := if_f c21 h0
      refine lv_aload_n hx hb dL_loads_360 rfl (lv_at hl 2 rfl) ?_
      obtain ⟨x22, ex22, h0⟩ := lt_out h0
      have kx22 := m_X7_errorPosition l D ca ar ag Pv18 Gv19 xs x22 ex22.symm H.size
      refine w_callV0 K X wC_fstx kx22 hl.1 0 q676 q677 q678 q16 q679 hv_X7_errorPosition ⟨⟨Nat.le_of_ble_eq_true rfl, Nat.le_of_ble_eq_true rfl⟩, rfl, rfl⟩ (pl_glb (k := 0) (by decide)) rfl rfl rfl rfl (Nat.le_of_ble_eq_true rfl) dL_loads_361 ⟨Nat.le_of_ble_eq_true rfl, Nat.le_of_ble_eq_true rfl⟩ rfl (fun H locs X => ?_)
      refine lv_iconst (v := (-1)) hx hb dL_loads_364 (by decide) ?_
      refine lv_icmp_ne (tgt := 442) hx hb dL_loads_365 (by decide) (fun c23 => ?_) (fun c23 => ?_)
      · have h0 := if_f c23 h0
        refine lv_iconst (v := 0) hx hb dL_loads_442 (by decide) ?_
        have h0 := Option.some.inj h0
        obtain ⟨q_0, h0⟩ := Prod.mk.inj h0
        obtain ⟨q_1, q_2⟩ := Prod.mk.inj h0
        subst q_0
        subst q_1
        subst q_2
        subst hQ
        refine w_int (y := b2i false) (by decide) ?_
        exact w_zret K hr0 X wC_fstx hsz (b2i_nar _) dL_loads_443
      · have h0 := if_t c23 h0
        refine lv_aload_n hx hb dL_loads_368 rfl (lv_at hl 2 rfl) ?_
        refine lv_iconst (v := 0) hx hb dL_loads_369 (by decide) ?_
        obtain ⟨x24, ex24, h0⟩ := ob_out h0
        have kx24 := m_X7_size l D ca ar ag z 200 Pv18 Gv19 xs 0 x24 ex24 H.size
        refine z_callV K hZ X wC_fstx wC_fstx kx24 hl.1 1 q680 q681 q682 q16 q683 hv_X7_size ⟨⟨Nat.le_of_ble_eq_true rfl, Nat.le_of_ble_eq_true rfl⟩, rfl, rfl⟩ (z_recvw K X (pl_glb (k := 0) (by decide)) rfl rfl) rfl rfl (Nat.le_of_ble_eq_true rfl) dL_loads_370 ⟨Nat.le_of_ble_eq_true rfl, Nat.le_of_ble_eq_true rfl⟩ rfl (fun H locs X => ?_)
        refine lv_iload hx hb dL_loads_373 (lv_at hl 3 rfl) ?_
        refine lv_icmp_ne (tgt := 442) hx hb dL_loads_375 (by decide) (fun c25 => ?_) (fun c25 => ?_)
        · have h0 := if_f c25 h0
          refine lv_iconst (v := 0) hx hb dL_loads_442 (by decide) ?_
          have h0 := Option.some.inj h0
          obtain ⟨q_0, h0⟩ := Prod.mk.inj h0
          obtain ⟨q_1, q_2⟩ := Prod.mk.inj h0
          subst q_0
          subst q_1
          subst q_2
          subst hQ
          refine w_int (y := b2i false) (by decide) ?_
          exact w_zret K hr0 X wC_fstx hsz (b2i_nar _) dL_loads_443
        · have h0 := if_t c25 h0
          refine lv_aload_n hx hb dL_loads_378 rfl (lv_at hl 2 rfl) ?_
          refine lv_iconst (v := 2) hx hb dL_loads_379 (by decide) ?_
          obtain ⟨x26, ex26, h0⟩ := ob_out h0
          have kx26 := m_X7_size l D ca ar ag z 200 Pv18 Gv19 xs 2 x26 ex26 H.size
          refine z_callV K hZ X wC_fstx wC_fstx kx26 hl.1 1 q680 q681 q682 q16 q683 hv_X7_size ⟨⟨Nat.le_of_ble_eq_true rfl, Nat.le_of_ble_eq_true rfl⟩, rfl, rfl⟩ (z_recvw K X (pl_glb (k := 0) (by decide)) rfl rfl) rfl rfl (Nat.le_of_ble_eq_true rfl) dL_loads_380 ⟨Nat.le_of_ble_eq_true rfl, Nat.le_of_ble_eq_true rfl⟩ rfl (fun H locs X => ?_)
          refine lv_iload hx hb dL_loads_383 (lv_at hl 4 rfl) ?_
          refine lv_icmp_ne (tgt := 442) hx hb dL_loads_385 (by decide) (fun c27 => ?_) (fun c27 => ?_)
          · have h0 := if_f c27 h0
            refine lv_iconst (v := 0) hx hb dL_loads_442 (by decide) ?_
            have h0 := Option.some.inj h0
            obtain ⟨q_0, h0⟩ := Prod.mk.inj h0
            obtain ⟨q_1, q_2⟩ := Prod.mk.inj h0
            subst q_0
            subst q_1
            subst q_2
            subst hQ
            refine w_int (y := b2i false) (by decide) ?_
            exact w_zret K hr0 X wC_fstx hsz (b2i_nar _) dL_loads_443
          · have h0 := if_t c27 h0
            refine lv_aload_n hx hb dL_loads_388 rfl (lv_at hl 2 rfl) ?_
            refine lv_iconst (v := 3) hx hb dL_loads_389 (by decide) ?_
            obtain ⟨x28, ex28, h0⟩ := ob_out h0
            have kx28 := m_X7_size l D ca ar ag z 200 Pv18 Gv19 xs 3 x28 ex28 H.size
            refine z_callV K hZ X wC_fstx wC_fstx kx28 hl.1 1 q680 q681 q682 q16 q683 hv_X7_size ⟨⟨Nat.le_of_ble_eq_true rfl, Nat.le_of_ble_eq_true rfl⟩, rfl, rfl⟩ (z_recvw K X (pl_glb (k := 0) (by decide)) rfl rfl) rfl rfl (Nat.le_of_ble_eq_true rfl) dL_loads_390 ⟨Nat.le_of_ble_eq_true rfl, Nat.le_of_ble_eq_true rfl⟩ rfl (fun H locs X => ?_)
            refine lv_iload hx hb dL_loads_393 (lv_at hl 0 rfl) ?_
            refine lv_icmp_ne (tgt := 442) hx hb dL_loads_395 (by decide) (fun c29 => ?_) (fun c29 => ?_)
            · have h0 := if_f c29 h0
              refine lv_iconst (v := 0) hx hb dL_loads_442 (by decide) ?_
              have h0 := Option.some.inj h0
              obtain ⟨q_0, h0⟩ := Prod.mk.inj h0
              obtain ⟨q_1, q_2⟩ := Prod.mk.inj h0
              subst q_0
              subst q_1
              subst q_2
              subst hQ
              refine w_int (y := b2i false) (by decide) ?_
              exact w_zret K hr0 X wC_fstx hsz (b2i_nar _) dL_loads_443
            · have h0 := if_t c29 h0
              refine lv_aload_n hx hb dL_loads_398 rfl (lv_at hl 2 rfl) ?_
              refine lv_iconst (v := 3) hx hb dL_loads_399 (by decide) ?_
              obtain ⟨x30, ex30, h0⟩ := ob_out h0
              have kx30 := m_X7_size l D ca ar ag z 200 Pv18 Gv19 xs 3 x30 ex30 H.size
              refine z_callV K hZ X wC_fstx wC_fstx kx30 hl.1 1 q680 q681 q682 q16 q683 hv_X7_size ⟨⟨Nat.le_of_ble_eq_true rfl, Nat.le_of_ble_eq_true rfl⟩, rfl, rfl⟩ (z_recvw K X (pl_glb (k := 0) (by decide)) rfl rfl) rfl rfl (Nat.le_of_ble_eq_true rfl) dL_loads_400 ⟨Nat.le_of_ble_eq_true rfl, Nat.le_of_ble_eq_true rfl⟩ rfl (fun H locs X => ?_)
              refine lv_aload_n hx hb dL_loads_403 rfl (lv_at hl 2 rfl) ?_
              refine lv_iconst (v := 4) hx hb dL_loads_404 (by decide) ?_
              obtain ⟨x31, ex31, h0⟩ := ob_out h0
              have kx31 := m_X7_size l D ca ar ag z 200 Pv18 Gv19 xs 4 x31 ex31 H.size
              refine z_callV K hZ X wC_fstx wC_fstx kx31 hl.1 1 q680 q681 q682 q16 q683 hv_X7_size ⟨⟨Nat.le_of_ble_eq_true rfl, Nat.le_of_ble_eq_true rfl⟩, rfl, rfl⟩ (z_recvw K X (pl_glb (k := 0) (by decide)) rfl rfl) rfl rfl (Nat.le_of_ble_eq_true rfl) dL_loads_405 ⟨Nat.le_of_ble_eq_true rfl, Nat.le_of_ble_eq_true rfl⟩ rfl (fun H locs X => ?_)
              refine lv_iadd hx hb dL_loads_408 ?_
              refine lv_aload_n hx hb dL_loads_409 rfl (lv_at hl 2 rfl) ?_
              refine lv_iconst (v := 5) hx hb dL_loads_410 (by decide) ?_
              obtain ⟨x32, ex32, h0⟩ := ob_out h0
              have kx32 := m_X7_size l D ca ar ag z 200 Pv18 Gv19 xs 5 x32 ex32 H.size
              refine z_callV K hZ X wC_fstx wC_fstx kx32 hl.1 1 q680 q681 q682 q16 q683 hv_X7_size ⟨⟨Nat.le_of_ble_eq_true rfl, Nat.le_of_ble_eq_true rfl⟩, rfl, rfl⟩ (z_recvw K X (pl_glb (k := 0) (by decide)) rfl rfl) rfl rfl (Nat.le_of_ble_eq_true rfl) dL_loads_411 ⟨Nat.le_of_ble_eq_true rfl, Nat.le_of_ble_eq_true rfl⟩ rfl (fun H locs X => ?_)
              refine lv_iadd hx hb dL_loads_414 ?_
              refine lv_iload hx hb dL_loads_415 (lv_at hl 4 rfl) ?_
              refine lv_icmp_ne (tgt := 442) hx hb dL_loads_417 (by decide) (fun c33 => ?_) (fun c33 => ?_)
              · have h0 := if_f c33 h0
                refine lv_iconst (v := 0) hx hb dL_loads_442 (by decide) ?_
                have h0 := Option.some.inj h0
                obtain ⟨q_0, h0⟩ := Prod.mk.inj h0
                obtain ⟨q_1, q_2⟩ := Prod.mk.inj h0
                subst q_0
                subst q_1
                subst q_2
                subst hQ
                refine w_int (y := b2i false) (by decide) ?_
                exact w_zret K hr0 X wC_fstx hsz (b2i_nar _) dL_loads_443
              · have h0 := if_t c33 h0
                refine lv_aload_n hx hb dL_loads_420 rfl (lv_at hl 2 rfl) ?_
                refine lv_bipush (v := 6) hx hb dL_loads_421 (by decide) ?_
                obtain ⟨x34, ex34, h0⟩ := ob_out h0
                have kx34 := m_X7_size l D ca ar ag z 200 Pv18 Gv19 xs 6 x34 ex34 H.size
                refine z_callV K hZ X wC_fstx wC_fstx kx34 hl.1 1 q680 q681 q682 q16 q683 hv_X7_size ⟨⟨Nat.le_of_ble_eq_true rfl, Nat.le_of_ble_eq_true rfl⟩, rfl, rfl⟩ (z_recvw K X (pl_glb (k := 0) (by decide)) rfl rfl) rfl rfl (Nat.le_of_ble_eq_true rfl) dL_loads_423 ⟨Nat.le_of_ble_eq_true rfl, Nat.le_of_ble_eq_true rfl⟩ rfl (fun H locs X => ?_)
                refine lv_aload_n hx hb dL_loads_426 rfl (lv_at hl 2 rfl) ?_
                refine lv_bipush (v := 7) hx hb dL_loads_427 (by decide) ?_
                obtain ⟨x35, ex35, h0⟩ := ob_out h0
                have kx35 := m_X7_size l D ca ar ag z 200 Pv18 Gv19 xs 7 x35 ex35 H.size
                refine z_callV K hZ X wC_fstx wC_fstx kx35 hl.1 1 q680 q681 q682 q16 q683 hv_X7_size ⟨⟨Nat.le_of_ble_eq_true rfl, Nat.le_of_ble_eq_true rfl⟩, rfl, rfl⟩ (z_recvw K X (pl_glb (k := 0) (by decide)) rfl rfl) rfl rfl (Nat.le_of_ble_eq_true rfl) dL_loads_429 ⟨Nat.le_of_ble_eq_true rfl, Nat.le_of_ble_eq_true rfl⟩ rfl (fun H locs X => ?_)
                refine lv_iadd hx hb dL_loads_432 ?_
                refine lv_iload hx hb dL_loads_433 (lv_at hl 4 rfl) ?_
                refine lv_icmp_ne (tgt := 442) hx hb dL_loads_435 (by decide) (fun c36 => ?_) (fun c36 => ?_)
                · have h0 := if_f c36 h0
                  refine lv_iconst (v := 0) hx hb dL_loads_442 (by decide) ?_
                  have h0 := Option.some.inj h0
                  obtain ⟨q_0, h0⟩ := Prod.mk.inj h0
                  obtain ⟨q_1, q_2⟩ := Prod.mk.inj h0
                  subst q_0
                  subst q_1
                  subst q_2
                  subst hQ
                  refine w_int (y := b2i false) (by decide) ?_
                  exact w_zret K hr0 X wC_fstx hsz (b2i_nar _) dL_loads_443
                · have h0 := if_t c36 h0
                  refine lv_iconst (v := 1) hx hb dL_loads_438 (by decide) ?_
                  refine lv_goto (tgt := 443) hx hb dL_loads_439 (by decide) ?_
                  have h0 := Option.some.inj h0
                  obtain ⟨q_0, h0⟩ := Prod.mk.inj h0
                  obtain ⟨q_1, q_2⟩ := Prod.mk.inj h0
                  subst q_0
                  subst q_1
                  subst q_2
                  subst hQ
                  refine w_int (y := b2i true) (by decide) ?_
                  exact w_zret K hr0 X wC_fstx hsz (b2i_nar _) dL_loads_443
  have J201 : ∀ (y201_l3 : Int32) (y201_l4 : Int32) (P_201 : RowsS) (G_201 : GlbS) (H : Heap) (locs : List Loc) (X : RW D (wC ar ag ca P_201 G_201 ++ xs) s.heap H locs) (ls : Array Slot) (hl : lv_has ls 8 [(0, .ref (ag 7)), (1, .ref (ag 0)), (2, .ref z.2.2.1), (3, .int y201_l3), (4, .int y201_l4)]) (h0 : b_L_loads_201 z y201_l3 y201_l4 P_201 G_201 = some (res, P', G')), W p l e rm_L_loads s m args below meth c H locs 0 0 Q (F0 m 201 ls []) := by
    intro y201_l3 y201_l4 P_201 G_201 H locs X ls hl h0
    unfold b_L_loads_201 at h0
    refine lv_iload_n hx hb dL_loads_201 rfl (lv_at hl 3 rfl) ?_
    refine lv_bipush (v := 12) hx hb dL_loads_202 (by decide) ?_
    refine lv_idiv hx hb dL_loads_204 (by decide) ?_
    refine lv_bipush (v := 8) hx hb dL_loads_205 (by decide) ?_
    refine lv_irem hx hb dL_loads_207 (by decide) ?_
    obtain ⟨x13, ex13, h0⟩ := lt_out h0
    refine w_int ex13 ?_
    refine lv_istore (lv' := [(5, .int x13), (0, .ref (ag 7)), (1, .ref (ag 0)), (2, .ref z.2.2.1), (3, .int y201_l3), (4, .int y201_l4)]) hx hb dL_loads_208 hl (by decide) rfl (fun ls hl => ?_)
    refine lv_iconst (v := 0) hx hb dL_loads_210 (by decide) ?_
    refine lv_istore (lv' := [(6, .int 0), (5, .int x13), (0, .ref (ag 7)), (1, .ref (ag 0)), (2, .ref z.2.2.1), (3, .int y201_l3), (4, .int y201_l4)]) hx hb dL_loads_211 hl (by decide) rfl (fun ls hl => ?_)
    obtain ⟨e_1, he1, h0⟩ := ob_out h0
    have K213 : ∀ (k : Nat) (z213_6 : Int32) (Gz_213 : GlbS) (H : Heap) (locs : List Loc) (X : RW D (wC ar ag ca P_201 Gz_213 ++ xs) s.heap H locs) (ls : Array Slot) (hl : lv_has ls 8 [(0, .ref (ag 7)), (1, .ref (ag 0)), (2, .ref z.2.2.1), (4, .int y201_l4), (5, .int x13), (6, .int z213_6)]) (hw : wloop (fun t => l_L_loads_213 z y201_l4 P_201 x13 t.1 t.2) k (z213_6, Gz_213) = some e_1), W p l e rm_L_loads s m args below meth c H locs 0 0 Q (F0 m 213 ls []) := by
      intro k
      induction k with
      | zero => intro z213_6 Gz_213 H locs X ls hl hw; exact (wloop_0 hw).elim
      | succ k ih1 =>
        intro z213_6 Gz_213 H locs X ls hl hw
        obtain ⟨x_1, h1, hx1⟩ := wloop_out hw
        have h1 : l_L_loads_213 z y201_l4 P_201 x13 z213_6 Gz_213 = some x_1 := h1
        unfold l_L_loads_213 at h1
        have J332 : ∀ (y332_l6 : Int32) (G_332 : GlbS) (H : Heap) (locs : List Loc) (X : RW D (wC ar ag ca P_201 G_332 ++ xs) s.heap H locs) (ls : Array Slot) (hl : lv_has ls 8 [(0, .ref (ag 7)), (1, .ref (ag 0)), (2, .ref z.2.2.1), (4, .int y201_l4), (5, .int x13), (6, .int y332_l6)]) (h1 : b_L_loads_332 P_201 y332_l6 G_332 = some x_1), W p l e rm_L_loads s m args below meth c H locs 0 0 Q (F0 m 332 ls []) := by
          intro y332_l6 G_332 H locs X ls hl h1
          unfold b_L_loads_332 at h1
          refine lv_aload_n hx hb dL_loads_332 rfl (lv_at hl 0 rfl) ?_
          refine z_ldc K hZ 3 (by decide) ⟨rfl, rfl⟩ dL_loads_333 ?_
          obtain ⟨x52, ex52, h1⟩ := ob_out h1
          obtain ⟨Gv53, eGv53, h1⟩ := lt_out h1
          have kx52 := m_L_writes l D ca ar ag z P_201 G_332 xs 3 (by decide) x52 ex52 H.size
          rw [← eGv53] at kx52
          refine z_callV K hZ X wC_fstx wC_fstx kx52 hl.1 1 q318 q320 q1 q15 q321 hv_L_writes ⟨⟨Nat.le_of_ble_eq_true rfl, Nat.le_of_ble_eq_true rfl⟩, rfl, rfl⟩ (z_recvw K X (pl_glb (k := 7) (by decide)) rfl rfl) rfl rfl (Nat.le_of_ble_eq_true rfl) dL_loads_335 ⟨Nat.le_of_ble_eq_true rfl, Nat.le_of_ble_eq_true rfl⟩ rfl (fun H locs X => ?_)
          obtain ⟨x54, ex54, h1⟩ := lt_out h1
          refine lv_iinc (v := x54) (lv' := [(6, .int x54), (0, .ref (ag 7)), (1, .ref (ag 0)), (2, .ref z.2.2.1), (4, .int y201_l4), (5, .int x13)]) hx hb dL_loads_338 hl (k := 5) rfl (by rw [ex54]; rfl) (by decide) rfl (fun ls hl => ?_)
          refine lv_goto (tgt := 213) hx hb dL_loads_341 (by decide) ?_
          exact ih1 x54 Gv53 H locs X ls (lv_sub hl [1, 2, 3, 4, 5, 0] rfl) (wl_l h1 hx1)
        refine lv_iload hx hb dL_loads_213 (lv_at hl 5 rfl) ?_
        refine lv_iload hx hb dL_loads_215 (lv_at hl 4 rfl) ?_
        refine lv_icmp_ge (tgt := 344) hx hb dL_loads_217 (by decide) (fun c14 => ?_) (fun c14 => ?_)
        · have h1 := if_t c14 h1
          have q1 := wl_r h1 hx1
          exact J344 y201_l4 x13 P_201 Gz_213 H locs X ls (lv_sub hl [0, 1, 3, 4] rfl) (by rw [q1] at h0; exact h0)
        · have h1 := if_f c14 h1
          refine lv_aload_n hx hb dL_loads_220 rfl (lv_at hl 2 rfl) ?_
          refine lv_iconst (v := 4) hx hb dL_loads_221 (by decide) ?_
          refine lv_iload hx hb dL_loads_222 (lv_at hl 5 rfl) ?_
          refine lv_iadd hx hb dL_loads_224 ?_
          obtain ⟨x37, ex37, h1⟩ := ob_out h1
          have kx37 := m_L_cell l D ca z (wC ar ag ca P_201 Gz_213 ++ xs) (4 + z213_6) x37 ex37 H.size
          refine z_callS K hZ X wC_fstx wC_fstx kx37 hl.1 2 q313 q314 q15 q315 hs_L_cell ⟨⟨Nat.le_of_ble_eq_true rfl, Nat.le_of_ble_eq_true rfl⟩, rfl, rfl⟩ rfl rfl (Nat.le_of_ble_eq_true rfl) dL_loads_225 ⟨Nat.le_of_ble_eq_true rfl, Nat.le_of_ble_eq_true rfl⟩ rfl (fun H locs X => ?_)
          refine lv_istore (lv' := [(7, .int x37), (0, .ref (ag 7)), (1, .ref (ag 0)), (2, .ref z.2.2.1), (4, .int y201_l4), (5, .int x13), (6, .int z213_6)]) hx hb dL_loads_228 hl (by decide) rfl (fun ls hl => ?_)
          refine lv_aload_n hx hb dL_loads_230 rfl (lv_at hl 1 rfl) ?_
          refine z_ldc K hZ 6 (by decide) ⟨rfl, rfl⟩ dL_loads_231 ?_
          obtain ⟨x38, ex38, h1⟩ := ob_out h1
          obtain ⟨Gv39, eGv39, h1⟩ := lt_out h1
          have kx38 := m_L_writes l D ca ar ag z P_201 Gz_213 xs 6 (by decide) x38 ex38 H.size
          rw [← eGv39] at kx38
          refine z_callV K hZ X wC_fstx wC_fstx kx38 hl.1 1 q318 q320 q1 q15 q321 hv_L_writes ⟨⟨Nat.le_of_ble_eq_true rfl, Nat.le_of_ble_eq_true rfl⟩, rfl, rfl⟩ (z_recvw K X (pl_glb (k := 7) (by decide)) rfl rfl) rfl rfl (Nat.le_of_ble_eq_true rfl) dL_loads_233 ⟨Nat.le_of_ble_eq_true rfl, Nat.le_of_ble_eq_true rfl⟩ rfl (fun H locs X => ?_)
          refine lv_aload_n hx hb dL_loads_236 rfl (lv_at hl 1 rfl) ?_
          refine lv_iload hx hb dL_loads_237 (lv_at hl 0 rfl) ?_
          refine lv_iconst (v := 2) hx hb dL_loads_239 (by decide) ?_
          refine lv_irem hx hb dL_loads_240 (by decide) ?_
          obtain ⟨x40, ex40, h1⟩ := ob_out h1
          obtain ⟨Gv41, eGv41, h1⟩ := lt_out h1
          have kx40 := m_L_spaced l D ca ar ag z P_201 Gv39 xs (x37 - x37 / 2 * 2) x40 ex40 H.size
          rw [← eGv41] at kx40
          refine z_callV K hZ X wC_fstx wC_fstx kx40 hl.1 1 q369 q371 q2 q15 q372 hv_L_spaced ⟨⟨Nat.le_of_ble_eq_true rfl, Nat.le_of_ble_eq_true rfl⟩, rfl, rfl⟩ (z_recvw K X (pl_glb (k := 7) (by decide)) rfl rfl) rfl rfl (Nat.le_of_ble_eq_true rfl) dL_loads_241 ⟨Nat.le_of_ble_eq_true rfl, Nat.le_of_ble_eq_true rfl⟩ rfl (fun H locs X => ?_)
          refine lv_aload_n hx hb dL_loads_244 rfl (lv_at hl 1 rfl) ?_
          refine lv_iload hx hb dL_loads_245 (lv_at hl 0 rfl) ?_
          refine lv_iconst (v := 2) hx hb dL_loads_247 (by decide) ?_
          refine lv_idiv hx hb dL_loads_248 (by decide) ?_
          refine lv_iload hx hb dL_loads_249 (lv_at hl 4 rfl) ?_
          obtain ⟨c42, h1⟩ := if_o h1
          refine lv_irem hx hb dL_loads_251 c42 ?_
          obtain ⟨x43, ex43, h1⟩ := ob_out h1
          obtain ⟨Gv44, eGv44, h1⟩ := lt_out h1
          have kx43 := m_L_spaced l D ca ar ag z P_201 Gv41 xs ((x37 / 2) - (x37 / 2) / y201_l4 * y201_l4) x43 ex43 H.size
          rw [← eGv44] at kx43
          refine z_callV K hZ X wC_fstx wC_fstx kx43 hl.1 1 q369 q371 q2 q15 q372 hv_L_spaced ⟨⟨Nat.le_of_ble_eq_true rfl, Nat.le_of_ble_eq_true rfl⟩, rfl, rfl⟩ (z_recvw K X (pl_glb (k := 7) (by decide)) rfl rfl) rfl rfl (Nat.le_of_ble_eq_true rfl) dL_loads_252 ⟨Nat.le_of_ble_eq_true rfl, Nat.le_of_ble_eq_true rfl⟩ rfl (fun H locs X => ?_)
          refine lv_aload_n hx hb dL_loads_255 rfl (lv_at hl 1 rfl) ?_
          refine lv_iconst (v := 1) hx hb dL_loads_256 (by decide) ?_
          refine lv_iload hx hb dL_loads_257 (lv_at hl 0 rfl) ?_
          refine lv_bipush (v := 16) hx hb dL_loads_259 (by decide) ?_
          refine lv_idiv hx hb dL_loads_261 (by decide) ?_
          refine lv_bipush (v := 10) hx hb dL_loads_262 (by decide) ?_
          refine lv_irem hx hb dL_loads_264 (by decide) ?_
          refine lv_iadd hx hb dL_loads_265 ?_
          obtain ⟨x45, ex45, h1⟩ := ob_out h1
          obtain ⟨Gv46, eGv46, h1⟩ := lt_out h1
          have kx45 := m_L_spaced l D ca ar ag z P_201 Gv44 xs (1 + ((x37 / 16) - (x37 / 16) / 10 * 10)) x45 ex45 H.size
          rw [← eGv46] at kx45
          refine z_callV K hZ X wC_fstx wC_fstx kx45 hl.1 1 q369 q371 q2 q15 q372 hv_L_spaced ⟨⟨Nat.le_of_ble_eq_true rfl, Nat.le_of_ble_eq_true rfl⟩, rfl, rfl⟩ (z_recvw K X (pl_glb (k := 7) (by decide)) rfl rfl) rfl rfl (Nat.le_of_ble_eq_true rfl) dL_loads_266 ⟨Nat.le_of_ble_eq_true rfl, Nat.le_of_ble_eq_true rfl⟩ rfl (fun H locs X => ?_)
          refine lv_aload_n hx hb dL_loads_269 rfl (lv_at hl 1 rfl) ?_
          refine lv_bipush (v := 50) hx hb dL_loads_270 (by decide) ?_
          refine lv_iload hx hb dL_loads_272 (lv_at hl 0 rfl) ?_
          refine lv_sipush (v := 160) hx hb dL_loads_274 (by decide) ?_
          refine lv_idiv hx hb dL_loads_277 (by decide) ?_
          refine lv_sipush (v := 951) hx hb dL_loads_278 (by decide) ?_
          refine lv_irem hx hb dL_loads_281 (by decide) ?_
          refine lv_iadd hx hb dL_loads_282 ?_
          obtain ⟨x47, ex47, h1⟩ := ob_out h1
          obtain ⟨Gv48, eGv48, h1⟩ := lt_out h1
          have kx47 := m_L_spaced l D ca ar ag z P_201 Gv46 xs (50 + ((x37 / 160) - (x37 / 160) / 951 * 951)) x47 ex47 H.size
          rw [← eGv48] at kx47
          refine z_callV K hZ X wC_fstx wC_fstx kx47 hl.1 1 q369 q371 q2 q15 q372 hv_L_spaced ⟨⟨Nat.le_of_ble_eq_true rfl, Nat.le_of_ble_eq_true rfl⟩, rfl, rfl⟩ (z_recvw K X (pl_glb (k := 7) (by decide)) rfl rfl) rfl rfl (Nat.le_of_ble_eq_true rfl) dL_loads_283 ⟨Nat.le_of_ble_eq_true rfl, Nat.le_of_ble_eq_true rfl⟩ rfl (fun H locs X => ?_)
          refine lv_aload_n hx hb dL_loads_286 rfl (lv_at hl 1 rfl) ?_
          refine lv_bipush (v := 100) hx hb dL_loads_287 (by decide) ?_
          refine lv_iload hx hb dL_loads_289 (lv_at hl 0 rfl) ?_
          refine lv_ldc hx hb K.2.2.2.1 (K.2.2.2.2.1 _ q380) dL_loads_291 ?_
          refine lv_idiv hx hb dL_loads_293 (by decide) ?_
          refine lv_sipush (v := 1900) hx hb dL_loads_294 (by decide) ?_
          refine lv_irem hx hb dL_loads_297 (by decide) ?_
          refine lv_iadd hx hb dL_loads_298 ?_
          obtain ⟨x49, ex49, h1⟩ := ob_out h1
          obtain ⟨Gv50, eGv50, h1⟩ := lt_out h1
          have kx49 := m_L_spaced l D ca ar ag z P_201 Gv48 xs (100 + ((x37 / 200000) - (x37 / 200000) / 1900 * 1900)) x49 ex49 H.size
          rw [← eGv50] at kx49
          refine z_callV K hZ X wC_fstx wC_fstx kx49 hl.1 1 q369 q371 q2 q15 q372 hv_L_spaced ⟨⟨Nat.le_of_ble_eq_true rfl, Nat.le_of_ble_eq_true rfl⟩, rfl, rfl⟩ (z_recvw K X (pl_glb (k := 7) (by decide)) rfl rfl) rfl rfl (Nat.le_of_ble_eq_true rfl) dL_loads_299 ⟨Nat.le_of_ble_eq_true rfl, Nat.le_of_ble_eq_true rfl⟩ rfl (fun H locs X => ?_)
          refine lv_iload hx hb dL_loads_302 (lv_at hl 0 rfl) ?_
          refine lv_iconst (v := 3) hx hb dL_loads_304 (by decide) ?_
          refine lv_irem hx hb dL_loads_305 (by decide) ?_
          refine lv_if_ne (tgt := 332) hx hb dL_loads_306 (by decide) (fun c51 => ?_) (fun c51 => ?_)
          · have h1 := if_f c51 h1
            exact J332 z213_6 Gv50 H locs X ls (lv_sub hl [1, 2, 3, 4, 5, 6] rfl) h1
          · have h1 := if_t c51 h1
            refine lv_aload_n hx hb dL_loads_309 rfl (lv_at hl 1 rfl) ?_
            refine z_ldc K hZ 7 (by decide) ⟨rfl, rfl⟩ dL_loads_310 ?_
            obtain ⟨x55, ex55, h1⟩ := ob_out h1
            obtain ⟨Gv56, eGv56, h1⟩ := lt_out h1
            have kx55 := m_L_writes l D ca ar ag z P_201 Gv50 xs 7 (by decide) x55 ex55 H.size
            rw [← eGv56] at kx55
            refine z_callV K hZ X wC_fstx wC_fstx kx55 hl.1 1 q318 q320 q1 q15 q321 hv_L_writes ⟨⟨Nat.le_of_ble_eq_true rfl, Nat.le_of_ble_eq_true rfl⟩, rfl, rfl⟩ (z_recvw K X (pl_glb (k := 7) (by decide)) rfl rfl) rfl rfl (Nat.le_of_ble_eq_true rfl) dL_loads_312 ⟨Nat.le_of_ble_eq_true rfl, Nat.le_of_ble_eq_true rfl⟩ rfl (fun H locs X => ?_)
            refine lv_aload_n hx hb dL_loads_315 rfl (lv_at hl 1 rfl) ?_
            refine lv_iload hx hb dL_loads_316 (lv_at hl 0 rfl) ?_
            refine lv_bipush (v := 7) hx hb dL_loads_318 (by decide) ?_
            refine lv_idiv hx hb dL_loads_320 (by decide) ?_
            refine lv_sipush (v := 401) hx hb dL_loads_321 (by decide) ?_
            refine lv_irem hx hb dL_loads_324 (by decide) ?_
            refine lv_sipush (v := 200) hx hb dL_loads_325 (by decide) ?_
            refine lv_isub hx hb dL_loads_328 ?_
            obtain ⟨x57, ex57, h1⟩ := ob_out h1
            obtain ⟨Gv58, eGv58, h1⟩ := lt_out h1
            have kx57 := m_L_spaced l D ca ar ag z P_201 Gv56 xs (((x37 / 7) - (x37 / 7) / 401 * 401) - 200) x57 ex57 H.size
            rw [← eGv58] at kx57
            refine z_callV K hZ X wC_fstx wC_fstx kx57 hl.1 1 q369 q371 q2 q15 q372 hv_L_spaced ⟨⟨Nat.le_of_ble_eq_true rfl, Nat.le_of_ble_eq_true rfl⟩, rfl, rfl⟩ (z_recvw K X (pl_glb (k := 7) (by decide)) rfl rfl) rfl rfl (Nat.le_of_ble_eq_true rfl) dL_loads_329 ⟨Nat.le_of_ble_eq_true rfl, Nat.le_of_ble_eq_true rfl⟩ rfl (fun H locs X => ?_)
            exact J332 z213_6 Gv58 H locs X ls (lv_sub hl [1, 2, 3, 4, 5, 6] rfl) h1
    exact K213 200 0 G_201 H locs X ls (lv_sub hl [2, 3, 4, 6, 1, 0] rfl) he1
  have J142 : ∀ (y142_l3 : Int32) (y142_l4 : Int32) (P_142 : RowsS) (G_142 : GlbS) (H : Heap) (locs : List Loc) (X : RW D (wC ar ag ca P_142 G_142 ++ xs) s.heap H locs) (ls : Array Slot) (hl : lv_has ls 8 [(0, .ref (ag 7)), (1, .ref (ag 0)), (2, .ref z.2.2.1), (3, .int y142_l3), (4, .int y142_l4)]) (h0 : b_L_loads_142 z y142_l3 y142_l4 P_142 G_142 = some (res, P', G')), W p l e rm_L_loads s m args below meth c H locs 0 0 Q (F0 m 142 ls []) := by
    intro y142_l3 y142_l4 P_142 G_142 H locs X ls hl h0
    unfold b_L_loads_142 at h0
    refine lv_iconst (v := 0) hx hb dL_loads_142 (by decide) ?_
    refine lv_istore (lv' := [(5, .int 0), (0, .ref (ag 7)), (1, .ref (ag 0)), (2, .ref z.2.2.1), (3, .int y142_l3), (4, .int y142_l4)]) hx hb dL_loads_143 hl (by decide) rfl (fun ls hl => ?_)
    obtain ⟨e_1, he1, h0⟩ := ob_out h0
    have K145 : ∀ (k : Nat) (z145_5 : Int32) (Gz_145 : GlbS) (H : Heap) (locs : List Loc) (X : RW D (wC ar ag ca P_142 Gz_145 ++ xs) s.heap H locs) (ls : Array Slot) (hl : lv_has ls 8 [(0, .ref (ag 7)), (1, .ref (ag 0)), (2, .ref z.2.2.1), (3, .int y142_l3), (4, .int y142_l4), (5, .int z145_5)]) (hw : wloop (fun t => l_L_loads_145 z y142_l4 P_142 t.1 t.2) k (z145_5, Gz_145) = some e_1), W p l e rm_L_loads s m args below meth c H locs 0 0 Q (F0 m 145 ls []) := by
      intro k
      induction k with
      | zero => intro z145_5 Gz_145 H locs X ls hl hw; exact (wloop_0 hw).elim
      | succ k ih1 =>
        intro z145_5 Gz_145 H locs X ls hl hw
        obtain ⟨x_1, h1, hx1⟩ := wloop_out hw
        have h1 : l_L_loads_145 z y142_l4 P_142 z145_5 Gz_145 = some x_1 := h1
        unfold l_L_loads_145 at h1
        refine lv_iload hx hb dL_loads_145 (lv_at hl 5 rfl) ?_
        refine lv_iload hx hb dL_loads_147 (lv_at hl 4 rfl) ?_
        refine lv_icmp_ge (tgt := 201) hx hb dL_loads_149 (by decide) (fun c12 => ?_) (fun c12 => ?_)
        · have h1 := if_t c12 h1
          have q1 := wl_r h1 hx1
          exact J201 y142_l3 y142_l4 P_142 Gz_145 H locs X ls (lv_sub hl [0, 1, 2, 3, 4] rfl) (by rw [q1] at h0; exact h0)
        · have h1 := if_f c12 h1
          refine lv_aload_n hx hb dL_loads_152 rfl (lv_at hl 0 rfl) ?_
          refine z_ldc K hZ 5 (by decide) ⟨rfl, rfl⟩ dL_loads_153 ?_
          obtain ⟨x59, ex59, h1⟩ := ob_out h1
          obtain ⟨Gv60, eGv60, h1⟩ := lt_out h1
          have kx59 := m_L_writes l D ca ar ag z P_142 Gz_145 xs 5 (by decide) x59 ex59 H.size
          rw [← eGv60] at kx59
          refine z_callV K hZ X wC_fstx wC_fstx kx59 hl.1 1 q318 q320 q1 q15 q321 hv_L_writes ⟨⟨Nat.le_of_ble_eq_true rfl, Nat.le_of_ble_eq_true rfl⟩, rfl, rfl⟩ (z_recvw K X (pl_glb (k := 7) (by decide)) rfl rfl) rfl rfl (Nat.le_of_ble_eq_true rfl) dL_loads_155 ⟨Nat.le_of_ble_eq_true rfl, Nat.le_of_ble_eq_true rfl⟩ rfl (fun H locs X => ?_)
          refine lv_aload_n hx hb dL_loads_158 rfl (lv_at hl 0 rfl) ?_
          refine lv_iload hx hb dL_loads_159 (lv_at hl 5 rfl) ?_
          obtain ⟨x61, ex61, h1⟩ := ob_out h1
          obtain ⟨Gv62, eGv62, h1⟩ := lt_out h1
          have kx61 := m_L_spaced l D ca ar ag z P_142 Gv60 xs z145_5 x61 ex61 H.size
          rw [← eGv62] at kx61
          refine z_callV K hZ X wC_fstx wC_fstx kx61 hl.1 1 q369 q371 q2 q15 q372 hv_L_spaced ⟨⟨Nat.le_of_ble_eq_true rfl, Nat.le_of_ble_eq_true rfl⟩, rfl, rfl⟩ (z_recvw K X (pl_glb (k := 7) (by decide)) rfl rfl) rfl rfl (Nat.le_of_ble_eq_true rfl) dL_loads_161 ⟨Nat.le_of_ble_eq_true rfl, Nat.le_of_ble_eq_true rfl⟩ rfl (fun H locs X => ?_)
          refine lv_aload_n hx hb dL_loads_164 rfl (lv_at hl 0 rfl) ?_
          refine lv_ldc hx hb K.2.2.2.1 (K.2.2.2.2.1 _ q375) dL_loads_165 ?_
          refine lv_aload_n hx hb dL_loads_167 rfl (lv_at hl 2 rfl) ?_
          refine lv_iconst (v := 3) hx hb dL_loads_168 (by decide) ?_
          obtain ⟨x63, ex63, h1⟩ := ob_out h1
          have kx63 := m_L_cell l D ca z (wC ar ag ca P_142 Gv62 ++ xs) 3 x63 ex63 H.size
          refine z_callS K hZ X wC_fstx wC_fstx kx63 hl.1 2 q313 q314 q15 q315 hs_L_cell ⟨⟨Nat.le_of_ble_eq_true rfl, Nat.le_of_ble_eq_true rfl⟩, rfl, rfl⟩ rfl rfl (Nat.le_of_ble_eq_true rfl) dL_loads_169 ⟨Nat.le_of_ble_eq_true rfl, Nat.le_of_ble_eq_true rfl⟩ rfl (fun H locs X => ?_)
          refine lv_iconst (v := 1) hx hb dL_loads_172 (by decide) ?_
          refine lv_iload hx hb dL_loads_173 (lv_at hl 5 rfl) ?_
          refine lv_iadd hx hb dL_loads_175 ?_
          obtain ⟨c64, h1⟩ := if_o h1
          refine lv_idiv hx hb dL_loads_176 c64 ?_
          refine lv_sipush (v := 2000) hx hb dL_loads_177 (by decide) ?_
          refine lv_irem hx hb dL_loads_180 (by decide) ?_
          refine lv_isub hx hb dL_loads_181 ?_
          refine lv_sipush (v := 200) hx hb dL_loads_182 (by decide) ?_
          refine lv_iadd hx hb dL_loads_185 ?_
          obtain ⟨x65, ex65, h1⟩ := ob_out h1
          obtain ⟨Gv66, eGv66, h1⟩ := lt_out h1
          have kx65 := m_L_spaced l D ca ar ag z P_142 Gv62 xs ((50000 - ((x63 / (1 + z145_5)) - (x63 / (1 + z145_5)) / 2000 * 2000)) + 200) x65 ex65 H.size
          rw [← eGv66] at kx65
          refine z_callV K hZ X wC_fstx wC_fstx kx65 hl.1 1 q369 q371 q2 q15 q372 hv_L_spaced ⟨⟨Nat.le_of_ble_eq_true rfl, Nat.le_of_ble_eq_true rfl⟩, rfl, rfl⟩ (z_recvw K X (pl_glb (k := 7) (by decide)) rfl rfl) rfl rfl (Nat.le_of_ble_eq_true rfl) dL_loads_186 ⟨Nat.le_of_ble_eq_true rfl, Nat.le_of_ble_eq_true rfl⟩ rfl (fun H locs X => ?_)
          refine lv_aload_n hx hb dL_loads_189 rfl (lv_at hl 0 rfl) ?_
          refine z_ldc K hZ 3 (by decide) ⟨rfl, rfl⟩ dL_loads_190 ?_
          obtain ⟨x67, ex67, h1⟩ := ob_out h1
          obtain ⟨Gv68, eGv68, h1⟩ := lt_out h1
          have kx67 := m_L_writes l D ca ar ag z P_142 Gv66 xs 3 (by decide) x67 ex67 H.size
          rw [← eGv68] at kx67
          refine z_callV K hZ X wC_fstx wC_fstx kx67 hl.1 1 q318 q320 q1 q15 q321 hv_L_writes ⟨⟨Nat.le_of_ble_eq_true rfl, Nat.le_of_ble_eq_true rfl⟩, rfl, rfl⟩ (z_recvw K X (pl_glb (k := 7) (by decide)) rfl rfl) rfl rfl (Nat.le_of_ble_eq_true rfl) dL_loads_192 ⟨Nat.le_of_ble_eq_true rfl, Nat.le_of_ble_eq_true rfl⟩ rfl (fun H locs X => ?_)
          obtain ⟨x69, ex69, h1⟩ := lt_out h1
          refine lv_iinc (v := x69) (lv' := [(5, .int x69), (0, .ref (ag 7)), (1, .ref (ag 0)), (2, .ref z.2.2.1), (3, .int y142_l3), (4, .int y142_l4)]) hx hb dL_loads_195 hl (k := 5) rfl (by rw [ex69]; rfl) (by decide) rfl (fun ls hl => ?_)
          refine lv_goto (tgt := 145) hx hb dL_loads_198 (by decide) ?_
          exact ih1 x69 Gv68 H locs X ls (lv_sub hl [1, 2, 3, 4, 5, 0] rfl) (wl_l h1 hx1)
    exact K145 200 0 G_142 H locs X ls (lv_sub hl [1, 2, 3, 4, 5, 0] rfl) he1
  refine lv_aload_n hx hb dL_loads_0 rfl (lv_at hl 2 rfl) ?_
  refine lv_iconst (v := 0) hx hb dL_loads_1 (by decide) ?_
  obtain ⟨x1, ex1, h0⟩ := ob_out h0
  have kx1 := m_L_cell l D ca z (wC ar ag ca P G ++ xs) 0 x1 ex1 H.size
  refine z_callS K hZ X wC_fstx wC_fstx kx1 hl.1 2 q313 q314 q15 q315 hs_L_cell ⟨⟨Nat.le_of_ble_eq_true rfl, Nat.le_of_ble_eq_true rfl⟩, rfl, rfl⟩ rfl rfl (Nat.le_of_ble_eq_true rfl) dL_loads_2 ⟨Nat.le_of_ble_eq_true rfl, Nat.le_of_ble_eq_true rfl⟩ rfl (fun H locs X => ?_)
  refine lv_istore_n (lv' := [(3, .int x1), (0, .ref (ag 7)), (1, .ref (ag 0)), (2, .ref z.2.2.1)]) hx hb dL_loads_5 rfl hl (by decide) rfl (fun ls hl => ?_)
  refine lv_iconst (v := 2) hx hb dL_loads_6 (by decide) ?_
  refine lv_iload_n hx hb dL_loads_7 rfl (lv_at hl 0 rfl) ?_
  refine lv_iconst (v := 4) hx hb dL_loads_8 (by decide) ?_
  refine lv_irem hx hb dL_loads_9 (by decide) ?_
  refine lv_iadd hx hb dL_loads_10 ?_
  obtain ⟨x2, ex2, h0⟩ := lt_out h0
  refine w_int ex2 ?_
  refine lv_istore (lv' := [(4, .int x2), (3, .int x1), (0, .ref (ag 7)), (1, .ref (ag 0)), (2, .ref z.2.2.1)]) hx hb dL_loads_11 hl (by decide) rfl (fun ls hl => ?_)
  refine lv_aload_n hx hb dL_loads_13 rfl (lv_at hl 2 rfl) ?_
  refine z_ldc K hZ 0 (by decide) ⟨rfl, rfl⟩ dL_loads_14 ?_
  obtain ⟨x3, ex3, h0⟩ := ob_out h0
  obtain ⟨Gv4, eGv4, h0⟩ := lt_out h0
  have kx3 := m_L_writes l D ca ar ag z P G xs 0 (by decide) x3 ex3 H.size
  rw [← eGv4] at kx3
  refine z_callV K hZ X wC_fstx wC_fstx kx3 hl.1 1 q318 q320 q1 q15 q321 hv_L_writes ⟨⟨Nat.le_of_ble_eq_true rfl, Nat.le_of_ble_eq_true rfl⟩, rfl, rfl⟩ (z_recvw K X (pl_glb (k := 7) (by decide)) rfl rfl) rfl rfl (Nat.le_of_ble_eq_true rfl) dL_loads_16 ⟨Nat.le_of_ble_eq_true rfl, Nat.le_of_ble_eq_true rfl⟩ rfl (fun H locs X => ?_)
  refine lv_aload_n hx hb dL_loads_19 rfl (lv_at hl 2 rfl) ?_
  refine lv_iload hx hb dL_loads_20 (lv_at hl 0 rfl) ?_
  obtain ⟨x5, ex5, h0⟩ := ob_out h0
  obtain ⟨Gv6, eGv6, h0⟩ := lt_out h0
  have kx5 := m_L_spaced l D ca ar ag z P Gv4 xs x2 x5 ex5 H.size
  rw [← eGv6] at kx5
  refine z_callV K hZ X wC_fstx wC_fstx kx5 hl.1 1 q369 q371 q2 q15 q372 hv_L_spaced ⟨⟨Nat.le_of_ble_eq_true rfl, Nat.le_of_ble_eq_true rfl⟩, rfl, rfl⟩ (z_recvw K X (pl_glb (k := 7) (by decide)) rfl rfl) rfl rfl (Nat.le_of_ble_eq_true rfl) dL_loads_22 ⟨Nat.le_of_ble_eq_true rfl, Nat.le_of_ble_eq_true rfl⟩ rfl (fun H locs X => ?_)
  refine lv_aload_n hx hb dL_loads_25 rfl (lv_at hl 2 rfl) ?_
  refine lv_ldc hx hb K.2.2.2.1 (K.2.2.2.2.1 _ q375) dL_loads_26 ?_
  obtain ⟨x7, ex7, h0⟩ := ob_out h0
  obtain ⟨Gv8, eGv8, h0⟩ := lt_out h0
  have kx7 := m_L_spaced l D ca ar ag z P Gv6 xs 50000 x7 ex7 H.size
  rw [← eGv8] at kx7
  refine z_callV K hZ X wC_fstx wC_fstx kx7 hl.1 1 q369 q371 q2 q15 q372 hv_L_spaced ⟨⟨Nat.le_of_ble_eq_true rfl, Nat.le_of_ble_eq_true rfl⟩, rfl, rfl⟩ (z_recvw K X (pl_glb (k := 7) (by decide)) rfl rfl) rfl rfl (Nat.le_of_ble_eq_true rfl) dL_loads_28 ⟨Nat.le_of_ble_eq_true rfl, Nat.le_of_ble_eq_true rfl⟩ rfl (fun H locs X => ?_)
  refine lv_aload_n hx hb dL_loads_31 rfl (lv_at hl 2 rfl) ?_
  refine z_ldc K hZ 3 (by decide) ⟨rfl, rfl⟩ dL_loads_32 ?_
  obtain ⟨x9, ex9, h0⟩ := ob_out h0
  obtain ⟨Gv10, eGv10, h0⟩ := lt_out h0
  have kx9 := m_L_writes l D ca ar ag z P Gv8 xs 3 (by decide) x9 ex9 H.size
  rw [← eGv10] at kx9
  refine z_callV K hZ X wC_fstx wC_fstx kx9 hl.1 1 q318 q320 q1 q15 q321 hv_L_writes ⟨⟨Nat.le_of_ble_eq_true rfl, Nat.le_of_ble_eq_true rfl⟩, rfl, rfl⟩ (z_recvw K X (pl_glb (k := 7) (by decide)) rfl rfl) rfl rfl (Nat.le_of_ble_eq_true rfl) dL_loads_34 ⟨Nat.le_of_ble_eq_true rfl, Nat.le_of_ble_eq_true rfl⟩ rfl (fun H locs X => ?_)
  refine lv_iconst (v := 0) hx hb dL_loads_37 (by decide) ?_
  refine lv_istore (lv' := [(5, .int 0), (4, .int x2), (3, .int x1), (0, .ref (ag 7)), (1, .ref (ag 0)), (2, .ref z.2.2.1)]) hx hb dL_loads_38 hl (by decide) rfl (fun ls hl => ?_)
  obtain ⟨e_1, he1, h0⟩ := ob_out h0
  have K40 : ∀ (k : Nat) (z40_5 : Int32) (Gz_40 : GlbS) (H : Heap) (locs : List Loc) (X : RW D (wC ar ag ca P Gz_40 ++ xs) s.heap H locs) (ls : Array Slot) (hl : lv_has ls 8 [(0, .ref (ag 7)), (1, .ref (ag 0)), (2, .ref z.2.2.1), (3, .int x1), (4, .int x2), (5, .int z40_5)]) (hw : wloop (fun t => l_L_loads_40 z P x1 t.1 t.2) k (z40_5, Gz_40) = some e_1), W p l e rm_L_loads s m args below meth c H locs 0 0 Q (F0 m 40 ls []) := by
    intro k
    induction k with
    | zero => intro z40_5 Gz_40 H locs X ls hl hw; exact (wloop_0 hw).elim
    | succ k ih1 =>
      intro z40_5 Gz_40 H locs X ls hl hw
      obtain ⟨x_1, h1, hx1⟩ := wloop_out hw
      have h1 : l_L_loads_40 z P x1 z40_5 Gz_40 = some x_1 := h1
      unfold l_L_loads_40 at h1
      have J127 : ∀ (y127_l5 : Int32) (y127_s1 : Int32) (G_127 : GlbS) (H : Heap) (locs : List Loc) (X : RW D (wC ar ag ca P G_127 ++ xs) s.heap H locs) (ls : Array Slot) (hl : lv_has ls 8 [(0, .ref (ag 7)), (1, .ref (ag 0)), (2, .ref z.2.2.1), (3, .int x1), (4, .int x2), (5, .int y127_l5)]) (h1 : b_L_loads_127 P y127_l5 y127_s1 G_127 = some x_1), W p l e rm_L_loads s m args below meth c H locs 0 0 Q (F0 m 127 ls [.int y127_s1, .ref (ag 7)]) := by
        intro y127_l5 y127_s1 G_127 H locs X ls hl h1
        unfold b_L_loads_127 at h1
        obtain ⟨x80, ex80, h1⟩ := ob_out h1
        obtain ⟨Gv81, eGv81, h1⟩ := lt_out h1
        have kx80 := m_L_spaced l D ca ar ag z P G_127 xs y127_s1 x80 ex80 H.size
        rw [← eGv81] at kx80
        refine z_callV K hZ X wC_fstx wC_fstx kx80 hl.1 1 q369 q371 q2 q15 q372 hv_L_spaced ⟨⟨Nat.le_of_ble_eq_true rfl, Nat.le_of_ble_eq_true rfl⟩, rfl, rfl⟩ (z_recvw K X (pl_glb (k := 7) (by decide)) rfl rfl) rfl rfl (Nat.le_of_ble_eq_true rfl) dL_loads_127 ⟨Nat.le_of_ble_eq_true rfl, Nat.le_of_ble_eq_true rfl⟩ rfl (fun H locs X => ?_)
        refine lv_aload_n hx hb dL_loads_130 rfl (lv_at hl 0 rfl) ?_
        refine z_ldc K hZ 3 (by decide) ⟨rfl, rfl⟩ dL_loads_131 ?_
        obtain ⟨x82, ex82, h1⟩ := ob_out h1
        obtain ⟨Gv83, eGv83, h1⟩ := lt_out h1
        have kx82 := m_L_writes l D ca ar ag z P Gv81 xs 3 (by decide) x82 ex82 H.size
        rw [← eGv83] at kx82
        refine z_callV K hZ X wC_fstx wC_fstx kx82 hl.1 1 q318 q320 q1 q15 q321 hv_L_writes ⟨⟨Nat.le_of_ble_eq_true rfl, Nat.le_of_ble_eq_true rfl⟩, rfl, rfl⟩ (z_recvw K X (pl_glb (k := 7) (by decide)) rfl rfl) rfl rfl (Nat.le_of_ble_eq_true rfl) dL_loads_133 ⟨Nat.le_of_ble_eq_true rfl, Nat.le_of_ble_eq_true rfl⟩ rfl (fun H locs X => ?_)
        obtain ⟨x84, ex84, h1⟩ := lt_out h1
        refine lv_iinc (v := x84) (lv' := [(5, .int x84), (0, .ref (ag 7)), (1, .ref (ag 0)), (2, .ref z.2.2.1), (3, .int x1), (4, .int x2)]) hx hb dL_loads_136 hl (k := 5) rfl (by rw [ex84]; rfl) (by decide) rfl (fun ls hl => ?_)
        refine lv_goto (tgt := 40) hx hb dL_loads_139 (by decide) ?_
        exact ih1 x84 Gv83 H locs X ls (lv_sub hl [1, 2, 3, 4, 5, 0] rfl) (wl_l h1 hx1)
      refine lv_iload hx hb dL_loads_40 (lv_at hl 5 rfl) ?_
      refine lv_iconst (v := 2) hx hb dL_loads_42 (by decide) ?_
      refine lv_icmp_ge (tgt := 142) hx hb dL_loads_43 (by decide) (fun c11 => ?_) (fun c11 => ?_)
      · have h1 := if_t c11 h1
        have q1 := wl_r h1 hx1
        exact J142 x1 x2 P Gz_40 H locs X ls (lv_sub hl [0, 1, 2, 3, 4] rfl) (by rw [q1] at h0; exact h0)
      · have h1 := if_f c11 h1
        refine lv_aload_n hx hb dL_loads_46 rfl (lv_at hl 2 rfl) ?_
        refine lv_iconst (v := 1) hx hb dL_loads_47 (by decide) ?_
        refine lv_iload hx hb dL_loads_48 (lv_at hl 5 rfl) ?_
        refine lv_iadd hx hb dL_loads_50 ?_
        obtain ⟨x70, ex70, h1⟩ := ob_out h1
        have kx70 := m_L_cell l D ca z (wC ar ag ca P Gz_40 ++ xs) (1 + z40_5) x70 ex70 H.size
        refine z_callS K hZ X wC_fstx wC_fstx kx70 hl.1 2 q313 q314 q15 q315 hs_L_cell ⟨⟨Nat.le_of_ble_eq_true rfl, Nat.le_of_ble_eq_true rfl⟩, rfl, rfl⟩ rfl rfl (Nat.le_of_ble_eq_true rfl) dL_loads_51 ⟨Nat.le_of_ble_eq_true rfl, Nat.le_of_ble_eq_true rfl⟩ rfl (fun H locs X => ?_)
        refine lv_istore (lv' := [(6, .int x70), (0, .ref (ag 7)), (1, .ref (ag 0)), (2, .ref z.2.2.1), (3, .int x1), (4, .int x2), (5, .int z40_5)]) hx hb dL_loads_54 hl (by decide) rfl (fun ls hl => ?_)
        refine lv_aload_n hx hb dL_loads_56 rfl (lv_at hl 1 rfl) ?_
        refine z_ldc K hZ 4 (by decide) ⟨rfl, rfl⟩ dL_loads_57 ?_
        obtain ⟨x71, ex71, h1⟩ := ob_out h1
        obtain ⟨Gv72, eGv72, h1⟩ := lt_out h1
        have kx71 := m_L_writes l D ca ar ag z P Gz_40 xs 4 (by decide) x71 ex71 H.size
        rw [← eGv72] at kx71
        refine z_callV K hZ X wC_fstx wC_fstx kx71 hl.1 1 q318 q320 q1 q15 q321 hv_L_writes ⟨⟨Nat.le_of_ble_eq_true rfl, Nat.le_of_ble_eq_true rfl⟩, rfl, rfl⟩ (z_recvw K X (pl_glb (k := 7) (by decide)) rfl rfl) rfl rfl (Nat.le_of_ble_eq_true rfl) dL_loads_59 ⟨Nat.le_of_ble_eq_true rfl, Nat.le_of_ble_eq_true rfl⟩ rfl (fun H locs X => ?_)
        refine lv_aload_n hx hb dL_loads_62 rfl (lv_at hl 1 rfl) ?_
        refine lv_iload hx hb dL_loads_63 (lv_at hl 6 rfl) ?_
        obtain ⟨x73, ex73, h1⟩ := ob_out h1
        obtain ⟨Gv74, eGv74, h1⟩ := lt_out h1
        have kx73 := m_L_spaced l D ca ar ag z P Gv72 xs z40_5 x73 ex73 H.size
        rw [← eGv74] at kx73
        refine z_callV K hZ X wC_fstx wC_fstx kx73 hl.1 1 q369 q371 q2 q15 q372 hv_L_spaced ⟨⟨Nat.le_of_ble_eq_true rfl, Nat.le_of_ble_eq_true rfl⟩, rfl, rfl⟩ (z_recvw K X (pl_glb (k := 7) (by decide)) rfl rfl) rfl rfl (Nat.le_of_ble_eq_true rfl) dL_loads_65 ⟨Nat.le_of_ble_eq_true rfl, Nat.le_of_ble_eq_true rfl⟩ rfl (fun H locs X => ?_)
        refine lv_aload_n hx hb dL_loads_68 rfl (lv_at hl 1 rfl) ?_
        refine lv_sipush (v := 500) hx hb dL_loads_69 (by decide) ?_
        refine lv_iload hx hb dL_loads_72 (lv_at hl 0 rfl) ?_
        refine lv_sipush (v := 3000) hx hb dL_loads_74 (by decide) ?_
        refine lv_irem hx hb dL_loads_77 (by decide) ?_
        refine lv_iadd hx hb dL_loads_78 ?_
        obtain ⟨x75, ex75, h1⟩ := ob_out h1
        obtain ⟨Gv76, eGv76, h1⟩ := lt_out h1
        have kx75 := m_L_spaced l D ca ar ag z P Gv74 xs (500 + (x70 - x70 / 3000 * 3000)) x75 ex75 H.size
        rw [← eGv76] at kx75
        refine z_callV K hZ X wC_fstx wC_fstx kx75 hl.1 1 q369 q371 q2 q15 q372 hv_L_spaced ⟨⟨Nat.le_of_ble_eq_true rfl, Nat.le_of_ble_eq_true rfl⟩, rfl, rfl⟩ (z_recvw K X (pl_glb (k := 7) (by decide)) rfl rfl) rfl rfl (Nat.le_of_ble_eq_true rfl) dL_loads_79 ⟨Nat.le_of_ble_eq_true rfl, Nat.le_of_ble_eq_true rfl⟩ rfl (fun H locs X => ?_)
        refine lv_aload_n hx hb dL_loads_82 rfl (lv_at hl 1 rfl) ?_
        refine lv_sipush (v := 1000) hx hb dL_loads_83 (by decide) ?_
        refine lv_iload hx hb dL_loads_86 (lv_at hl 0 rfl) ?_
        refine lv_sipush (v := 3000) hx hb dL_loads_88 (by decide) ?_
        refine lv_idiv hx hb dL_loads_91 (by decide) ?_
        refine lv_sipush (v := 30000) hx hb dL_loads_92 (by decide) ?_
        refine lv_irem hx hb dL_loads_95 (by decide) ?_
        refine lv_iadd hx hb dL_loads_96 ?_
        obtain ⟨x77, ex77, h1⟩ := ob_out h1
        obtain ⟨Gv78, eGv78, h1⟩ := lt_out h1
        have kx77 := m_L_spaced l D ca ar ag z P Gv76 xs (1000 + ((x70 / 3000) - (x70 / 3000) / 30000 * 30000)) x77 ex77 H.size
        rw [← eGv78] at kx77
        refine z_callV K hZ X wC_fstx wC_fstx kx77 hl.1 1 q369 q371 q2 q15 q372 hv_L_spaced ⟨⟨Nat.le_of_ble_eq_true rfl, Nat.le_of_ble_eq_true rfl⟩, rfl, rfl⟩ (z_recvw K X (pl_glb (k := 7) (by decide)) rfl rfl) rfl rfl (Nat.le_of_ble_eq_true rfl) dL_loads_97 ⟨Nat.le_of_ble_eq_true rfl, Nat.le_of_ble_eq_true rfl⟩ rfl (fun H locs X => ?_)
        refine lv_aload_n hx hb dL_loads_100 rfl (lv_at hl 1 rfl) ?_
        refine lv_iload_n hx hb dL_loads_101 rfl (lv_at hl 4 rfl) ?_
        refine lv_iconst (v := 4) hx hb dL_loads_102 (by decide) ?_
        refine lv_idiv hx hb dL_loads_103 (by decide) ?_
        refine lv_iconst (v := 3) hx hb dL_loads_104 (by decide) ?_
        refine lv_irem hx hb dL_loads_105 (by decide) ?_
        refine lv_if_ne (tgt := 126) hx hb dL_loads_106 (by decide) (fun c79 => ?_) (fun c79 => ?_)
        · have h1 := if_f c79 h1
          refine lv_iconst (v := 0) hx hb dL_loads_126 (by decide) ?_
          exact J127 z40_5 0 Gv78 H locs X ls (lv_sub hl [1, 2, 3, 4, 5, 6] rfl) h1
        · have h1 := if_t c79 h1
          refine lv_iload hx hb dL_loads_109 (lv_at hl 0 rfl) ?_
          refine lv_sipush (v := 1000) hx hb dL_loads_111 (by decide) ?_
          refine lv_idiv hx hb dL_loads_114 (by decide) ?_
          refine lv_sipush (v := 2001) hx hb dL_loads_115 (by decide) ?_
          refine lv_irem hx hb dL_loads_118 (by decide) ?_
          refine lv_sipush (v := 1000) hx hb dL_loads_119 (by decide) ?_
          refine lv_isub hx hb dL_loads_122 ?_
          refine lv_goto (tgt := 127) hx hb dL_loads_123 (by decide) ?_
          exact J127 z40_5 (((x70 / 1000) - (x70 / 1000) / 2001 * 2001) - 1000) Gv78 H locs X ls (lv_sub hl [1, 2, 3, 4, 5, 6] rfl) h1
  exact K40 200 0 Gv10 H locs X ls (lv_sub hl [3, 4, 5, 2, 1, 0] rfl) he1
