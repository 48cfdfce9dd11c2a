-- X3_clear
def b_X3_clear_40  (R_40 : RowS) : Option RowS :=
  lt (f_X1_clear (R_40.1 (0 + 2), R_40.2 (0 + 2))) fun x5 =>
  lt (stL R_40 (0 + 2) x5) fun Rv6 =>
  lt (f_X1_clear (Rv6.1 (1 + 2), Rv6.2 (1 + 2))) fun x7 =>
  lt (stL Rv6 (1 + 2) x7) fun Rv8 =>
  some Rv8
def l_X3_clear_17  (z17_3 : Int32) (Rz_17 : RowS) : Option ((Int32 × RowS) ⊕ RowS) :=
  if 8 ≤ z17_3 then
    some (.inr Rz_17)
  else
    if 0 ≤ z17_3.toInt ∧ z17_3.toInt < 8 then
      lt (si Rz_17 1 z17_3.toNatClampNeg 50000) fun Rv10 =>
      lt (z17_3 + 1) fun x11 =>
      some (.inl (x11, Rv10))
    else none
def f_X3_clear (n : Nat) (R : RowS) (a1 : Int32) (a2 : Int32) : Option RowS :=
  lt (si R 0 0 a1) fun Rv1 =>
  lt (si Rv1 0 1 a2) fun Rv2 =>
  lt (si Rv2 0 2 0) fun Rv3 =>
  ob (wloop (fun t => l_X3_clear_17 t.1 t.2) n (0, Rv3)) (fun t => b_X3_clear_40 t)
abbrev rm_X3_clear : Room := { frames := 2, cells := 0, slots := 0, locals := 43 }
set_option maxRecDepth 100000 in
set_option maxHeartbeats 4000000 in
theorem m_X3_clear (l : Launch) (D : va_G) (ca : Nat → ClassId) (ar : Nat → Nat → Nat) (ag : Nat → Nat) (n : Nat) (P : RowsS) (r : Nat) (R : RowS) (G : GlbS) (xs : va_W) (hr : r < 13) (a1 : Int32) (a2 : Int32) (R' : RowS) (h0 : f_X3_clear n R a1 a2 = some R') (sz : Nat) : Met l yX3_clear (ws_ yX3_clear cX3_clear 4 none) rm_X3_clear (PCw D ca (wC ar ag ca (va_up P r R) G ++ xs) sz [.ref (ar r 0), .int a1, .int a2]) (QMw D (wC ar ag ca (va_up P r R) G ++ xs) (wC ar ag ca (va_up P r (R')) G ++ xs) sz none) 0 0 (AL (wC ar ag ca (va_up P r R) G ++ xs) sz) := by
  refine met_of (by decide) (Nat.le_of_ble_eq_true rfl) (fun p e s m args below meth c K hr0 X hsz ls hl => ?_)
  have K : MC D ca p s m args meth c cX3_clear 4 RX3 := K
  have hx := K.1
  have hb := K.2.1
  have hl : lv_has ls 4 [(0, .ref (ar r 0)), (1, .int a1), (2, .int a2)] := hl
  generalize hQ : MQ below _ args s 0 0 _ = Q
  unfold f_X3_clear at h0
  suffices Z : ∀ (H : Heap) (locs : List Loc) (X : RW D (wC ar ag ca (va_up P r R) G ++ xs) s.heap H locs), W p l e rm_X3_clear s m args below meth c H locs 0 0 Q (F0 m 0 ls []) from Z _ _ X
  intro H locs X
  have J40 : ∀ (R_40 : RowS) (H : Heap) (locs : List Loc) (X : RW D (wC ar ag ca (va_up P r R_40) G ++ xs) s.heap H locs) (ls : Array Slot) (hl : lv_has ls 4 [(0, .ref (ar r 0))]) (h0 : b_X3_clear_40 R_40 = some R'), W p l e rm_X3_clear s m args below meth c H locs 0 0 Q (F0 m 40 ls []) := by
    intro R_40 H locs X ls hl h0
    unfold b_X3_clear_40 at h0
    refine lv_aload_n hx hb dX3_clear_40 rfl (lv_at hl 0 rfl) ?_
    refine g_rowr K X hr 4 2 (by decide) q153 dX3_clear_41 ?_
    obtain ⟨x5, ex5, h0⟩ := lt_out h0
    obtain ⟨Rv6, eRv6, h0⟩ := lt_out h0
    have kx5 := mR_X1_clear l D ca ar ag P r 0 R_40 G xs hr (by decide) x5 ex5.symm H.size
    rw [← eRv6] at kx5
    refine w_callV0 K X wC_fstx kx5 hl.1 0 q266 q267 q268 q18 q269 hv_X1_clear ⟨⟨Nat.le_of_ble_eq_true rfl, Nat.le_of_ble_eq_true rfl⟩, rfl, rfl⟩ (pl_leg hr (by decide)) rfl rfl rfl rfl (Nat.le_of_ble_eq_true rfl) dX3_clear_44 ⟨Nat.le_of_ble_eq_true rfl, Nat.le_of_ble_eq_true rfl⟩ rfl (fun H locs X => ?_)
    refine lv_aload_n hx hb dX3_clear_47 rfl (lv_at hl 0 rfl) ?_
    refine g_rowr K X hr 5 3 (by decide) q154 dX3_clear_48 ?_
    obtain ⟨x7, ex7, h0⟩ := lt_out h0
    obtain ⟨Rv8, eRv8, h0⟩ := lt_out h0
    have kx7 := mR_X1_clear l D ca ar ag P r 1 Rv6 G xs hr (by decide) x7 ex7.symm H.size
    rw [← eRv8] at kx7
    refine w_callV0 K X wC_fstx kx7 hl.1 0 q266 q267 q268 q18 q269 hv_X1_clear ⟨⟨Nat.le_of_ble_eq_true rfl, Nat.le_of_ble_eq_true rfl⟩, rfl, rfl⟩ (pl_leg hr (by decide)) rfl rfl rfl rfl (Nat.le_of_ble_eq_true rfl) dX3_clear_51 ⟨Nat.le_of_ble_eq_true rfl, Nat.le_of_ble_eq_true rfl⟩ rfl (fun H locs X => ?_)
    have h0 := Option.some.inj h0
    subst h0
    subst hQ
    exact w_vret K hr0 X wC_fstx hsz dX3_clear_54
  refine lv_aload_n hx hb dX3_clear_0 rfl (lv_at hl 0 rfl) ?_
  refine lv_iload_n hx hb dX3_clear_1 rfl (lv_at hl 1 rfl) ?_
  obtain ⟨Rv1, eRv1, h0⟩ := lt_out h0
  refine p_rowi K X hr 0 (by decide) (upR_si eRv1) q144 dX3_clear_2 (fun H locs X => ?_)
  refine lv_aload_n hx hb dX3_clear_5 rfl (lv_at hl 0 rfl) ?_
  refine lv_iload_n hx hb dX3_clear_6 rfl (lv_at hl 2 rfl) ?_
  obtain ⟨Rv2, eRv2, h0⟩ := lt_out h0
  refine p_rowi K X hr 1 (by decide) (upR_si eRv2) q147 dX3_clear_7 (fun H locs X => ?_)
  refine lv_aload_n hx hb dX3_clear_10 rfl (lv_at hl 0 rfl) ?_
  refine lv_iconst (v := 0) hx hb dX3_clear_11 (by decide) ?_
  obtain ⟨Rv3, eRv3, h0⟩ := lt_out h0
  refine p_rowi K X hr 2 (by decide) (upR_si eRv3) q149 dX3_clear_12 (fun H locs X => ?_)
  refine lv_iconst (v := 0) hx hb dX3_clear_15 (by decide) ?_
  refine lv_istore_n (lv' := [(3, .int 0), (0, .ref (ar r 0)), (1, .int a1), (2, .int a2)]) hx hb dX3_clear_16 rfl hl (by decide) rfl (fun ls hl => ?_)
  obtain ⟨e_1, he1, h0⟩ := ob_out h0
  have K17 : ∀ (k : Nat) (z17_3 : Int32) (Rz_17 : RowS) (H : Heap) (locs : List Loc) (X : RW D (wC ar ag ca (va_up P r Rz_17) G ++ xs) s.heap H locs) (ls : Array Slot) (hl : lv_has ls 4 [(0, .ref (ar r 0)), (3, .int z17_3)]) (hw : wloop (fun t => l_X3_clear_17 t.1 t.2) k (z17_3, Rz_17) = some e_1), W p l e rm_X3_clear s m args below meth c H locs 0 0 Q (F0 m 17 ls []) := by
    intro k
    induction k with
    | zero => intro z17_3 Rz_17 H locs X ls hl hw; exact (wloop_0 hw).elim
    | succ k ih1 =>
      intro z17_3 Rz_17 H locs X ls hl hw
      obtain ⟨x_1, h1, hx1⟩ := wloop_out hw
      have h1 : l_X3_clear_17 z17_3 Rz_17 = some x_1 := h1
      unfold l_X3_clear_17 at h1
      refine lv_iload_n hx hb dX3_clear_17 rfl (lv_at hl 1 rfl) ?_
      refine lv_aload_n hx hb dX3_clear_18 rfl (lv_at hl 0 rfl) ?_
      refine g_rowr K X hr 3 1 (by decide) q152 dX3_clear_19 ?_
      refine l_press K X hr dX3_clear_22 ?_
      refine lv_icmp_ge (tgt := 40) hx hb dX3_clear_23 (by decide) (fun c4 => ?_) (fun c4 => ?_)
      · have h1 := if_t c4 h1
        have q1 := wl_r h1 hx1
        exact J40 Rz_17 H locs X ls (lv_sub hl [0] rfl) (by rw [q1] at h0; exact h0)
      · have h1 := if_f c4 h1
        refine lv_aload_n hx hb dX3_clear_26 rfl (lv_at hl 0 rfl) ?_
        refine g_rowr K X hr 3 1 (by decide) q152 dX3_clear_27 ?_
        refine lv_iload_n hx hb dX3_clear_30 rfl (lv_at hl 1 rfl) ?_
        refine lv_ldc hx hb K.2.2.2.1 (K.2.2.2.2.1 _ q265) dX3_clear_31 ?_
        obtain ⟨c9, h1⟩ := if_o h1
        obtain ⟨Rv10, eRv10, h1⟩ := lt_out h1
        refine s_press K X hr (inb_vp c9) (upR_si eRv10) dX3_clear_33 (fun H locs X => ?_)
        obtain ⟨x11, ex11, h1⟩ := lt_out h1
        refine lv_iinc (v := x11) (lv' := [(3, .int x11), (0, .ref (ar r 0))]) hx hb dX3_clear_34 hl (k := 1) rfl (by rw [ex11]; rfl) (by decide) rfl (fun ls hl => ?_)
        refine lv_goto (tgt := 17) hx hb dX3_clear_37 (by decide) ?_
        exact ih1 x11 Rv10 H locs X ls (lv_sub hl [1, 0] rfl) (wl_l h1 hx1)
  exact K17 n 0 Rv3 H locs X ls (lv_sub hl [1, 0] rfl) he1
theorem mC_X3_clear (l : Launch) (D : va_G) (ca : Nat → ClassId) (ar : Nat → Nat → Nat) (ag : Nat → Nat) (n : Nat) (P : RowsS) (r : Nat) (G : GlbS) (xs : va_W) (hr : r < 13) (a1 : Int32) (a2 : Int32) (R' : RowS) (h0 : f_X3_clear n (P r) a1 a2 = some R') (sz : Nat) : Met l yX3_clear (ws_ yX3_clear cX3_clear 4 none) rm_X3_clear (PCw D ca (wC ar ag ca P G ++ xs) sz [.ref (ar r 0), .int a1, .int a2]) (QMw D (wC ar ag ca P G ++ xs) (wC ar ag ca (va_up P r R') G ++ xs) sz none) 0 0 (AL (wC ar ag ca P G ++ xs) sz) := by
  have k := m_X3_clear l D ca ar ag n P r (P r) G xs hr a1 a2 R' h0 sz
  simpa only [up_self] using k
-- X3_pressureAt
def f_X3_pressureAt (R : RowS) (a1 : Int32) : Int32 :=
  if a1 < 0 then
    0
  else
    if 8 ≤ a1 then
      0
    else
      (R.1 1 a1.toNatClampNeg)
abbrev rm_X3_pressureAt : Room := { frames := 0, cells := 0, slots := 0, locals := 0 }
set_option maxRecDepth 100000 in
set_option maxHeartbeats 4000000 in
theorem m_X3_pressureAt (l : Launch) (D : va_G) (ca : Nat → ClassId) (ar : Nat → Nat → Nat) (ag : Nat → Nat) (P : RowsS) (r : Nat) (R : RowS) (G : GlbS) (xs : va_W) (hr : r < 13) (a1 : Int32) (res : Int32) (h0 : f_X3_pressureAt R a1 = res) (sz : Nat) : Met l yX3_pressureAt (ws_ yX3_pressureAt cX3_pressureAt 2 (some .int)) rm_X3_pressureAt (PCw D ca (wC ar ag ca (va_up P r R) G ++ xs) sz [.ref (ar r 0), .int a1]) (QMw D (wC ar ag ca (va_up P r R) G ++ xs) (wC ar ag ca (va_up P r R) G ++ xs) sz (some (.int res))) 0 0 (AL (wC ar ag ca (va_up P r R) G ++ xs) sz) := by
  refine met_of (by decide) (Nat.le_of_ble_eq_true rfl) (fun p e s m args below meth c K hr0 X hsz ls hl => ?_)
  have K : MC D ca p s m args meth c cX3_pressureAt 2 RX3 := K
  have hx := K.1
  have hb := K.2.1
  have hl : lv_has ls 2 [(0, .ref (ar r 0)), (1, .int a1)] := hl
  generalize hQ : MQ below _ args s 0 0 _ = Q
  unfold f_X3_pressureAt at h0
  suffices Z : ∀ (H : Heap) (locs : List Loc) (X : RW D (wC ar ag ca (va_up P r R) G ++ xs) s.heap H locs), W p l e rm_X3_pressureAt s m args below meth c H locs 0 0 Q (F0 m 0 ls []) from Z _ _ X
  intro H locs X
  refine lv_iload_n hx hb dX3_pressureAt_0 rfl (lv_at hl 1 rfl) ?_
  refine lv_if_lt (tgt := 22) hx hb dX3_pressureAt_1 (by decide) (fun c1 => ?_) (fun c1 => ?_)
  · have h0 := if_t c1 h0
    refine lv_iconst (v := 0) hx hb dX3_pressureAt_22 (by decide) ?_
    subst h0
    subst hQ
    exact w_iret K hr0 X wC_fstx hsz dX3_pressureAt_23
  · have h0 := if_f c1 h0
    refine lv_iload_n hx hb dX3_pressureAt_4 rfl (lv_at hl 1 rfl) ?_
    refine lv_aload_n hx hb dX3_pressureAt_5 rfl (lv_at hl 0 rfl) ?_
    refine g_rowr K X hr 3 1 (by decide) q152 dX3_pressureAt_6 ?_
    refine l_press K X hr dX3_pressureAt_9 ?_
    refine lv_icmp_ge (tgt := 22) hx hb dX3_pressureAt_10 (by decide) (fun c2 => ?_) (fun c2 => ?_)
    · have h0 := if_t c2 h0
      refine lv_iconst (v := 0) hx hb dX3_pressureAt_22 (by decide) ?_
      subst h0
      subst hQ
      exact w_iret K hr0 X wC_fstx hsz dX3_pressureAt_23
    · have h0 := if_f c2 h0
      refine lv_aload_n hx hb dX3_pressureAt_13 rfl (lv_at hl 0 rfl) ?_
      refine g_rowr K X hr 3 1 (by decide) q152 dX3_pressureAt_14 ?_
      refine lv_iload_n hx hb dX3_pressureAt_17 rfl (lv_at hl 1 rfl) ?_
      refine a_press K X hr (upR_1 _) (inb_2 c1 c2 (by decide)) dX3_pressureAt_18 ?_
      refine lv_goto (tgt := 23) hx hb dX3_pressureAt_19 (by decide) ?_
      subst h0
      subst hQ
      exact w_iret K hr0 X wC_fstx hsz dX3_pressureAt_23
theorem mC_X3_pressureAt (l : Launch) (D : va_G) (ca : Nat → ClassId) (ar : Nat → Nat → Nat) (ag : Nat → Nat) (P : RowsS) (r : Nat) (G : GlbS) (xs : va_W) (hr : r < 13) (a1 : Int32) (res : Int32) (h0 : f_X3_pressureAt (P r) a1 = res) (sz : Nat) : Met l yX3_pressureAt (ws_ yX3_pressureAt cX3_pressureAt 2 (some .int)) rm_X3_pressureAt (PCw D ca (wC ar ag ca P G ++ xs) sz [.ref (ar r 0), .int a1]) (QMw D (wC ar ag ca P G ++ xs) (wC ar ag ca P G ++ xs) sz (some (.int res))) 0 0 (AL (wC ar ag ca P G ++ xs) sz) := by
  have k := m_X3_pressureAt l D ca ar ag P r (P r) G xs hr a1 res h0 sz
  simpa only [up_self] using k
-- X3_tubeAt
def f_X3_tubeAt (R : RowS) (a1 : Int32) : Nat :=
  if a1 < 0 then
    12
  else
    if 12 ≤ a1 then
      12
    else
      a1.toNatClampNeg
abbrev rm_X3_tubeAt : Room := { frames := 0, cells := 0, slots := 0, locals := 0 }
set_option maxRecDepth 100000 in
set_option maxHeartbeats 4000000 in
theorem m_X3_tubeAt (l : Launch) (D : va_G) (ca : Nat → ClassId) (ar : Nat → Nat → Nat) (ag : Nat → Nat) (P : RowsS) (r : Nat) (R : RowS) (G : GlbS) (xs : va_W) (hr : r < 13) (a1 : Int32) (res : Nat) (h0 : f_X3_tubeAt R a1 = res) (sz : Nat) : Met l yX3_tubeAt (ws_ yX3_tubeAt cX3_tubeAt 2 (some (.object "SlantGauges$Tube"))) rm_X3_tubeAt (PCw D ca (wC ar ag ca (va_up P r R) G ++ xs) sz [.ref (ar r 0), .int a1]) (QMw D (wC ar ag ca (va_up P r R) G ++ xs) (wC ar ag ca (va_up P r R) G ++ xs) sz (some (.ref (ar r (res + 5))))) 0 0 (AL (wC ar ag ca (va_up P r R) G ++ xs) sz) := by
  refine met_of (by decide) (Nat.le_of_ble_eq_true rfl) (fun p e s m args below meth c K hr0 X hsz ls hl => ?_)
  have K : MC D ca p s m args meth c cX3_tubeAt 2 RX3 := K
  have hx := K.1
  have hb := K.2.1
  have hl : lv_has ls 2 [(0, .ref (ar r 0)), (1, .int a1)] := hl
  generalize hQ : MQ below _ args s 0 0 _ = Q
  unfold f_X3_tubeAt at h0
  suffices Z : ∀ (H : Heap) (locs : List Loc) (X : RW D (wC ar ag ca (va_up P r R) G ++ xs) s.heap H locs), W p l e rm_X3_tubeAt s m args below meth c H locs 0 0 Q (F0 m 0 ls []) from Z _ _ X
  intro H locs X
  refine lv_iload_n hx hb dX3_tubeAt_0 rfl (lv_at hl 1 rfl) ?_
  refine lv_if_lt (tgt := 22) hx hb dX3_tubeAt_1 (by decide) (fun c1 => ?_) (fun c1 => ?_)
  · have h0 := if_t c1 h0
    refine lv_aload_n hx hb dX3_tubeAt_22 rfl (lv_at hl 0 rfl) ?_
    refine g_rowr K X hr 7 17 (by decide) q156 dX3_tubeAt_23 ?_
    subst h0
    subst hQ
    exact w_aret K hr0 (Or.inl ⟨_, rfl⟩) X wC_fstx hsz dX3_tubeAt_26
  · have h0 := if_f c1 h0
    refine lv_iload_n hx hb dX3_tubeAt_4 rfl (lv_at hl 1 rfl) ?_
    refine lv_aload_n hx hb dX3_tubeAt_5 rfl (lv_at hl 0 rfl) ?_
    refine g_rowr K X hr 6 4 (by decide) q155 dX3_tubeAt_6 ?_
    refine l_tubes K X hr dX3_tubeAt_9 ?_
    refine lv_icmp_ge (tgt := 22) hx hb dX3_tubeAt_10 (by decide) (fun c2 => ?_) (fun c2 => ?_)
    · have h0 := if_t c2 h0
      refine lv_aload_n hx hb dX3_tubeAt_22 rfl (lv_at hl 0 rfl) ?_
      refine g_rowr K X hr 7 17 (by decide) q156 dX3_tubeAt_23 ?_
      subst h0
      subst hQ
      exact w_aret K hr0 (Or.inl ⟨_, rfl⟩) X wC_fstx hsz dX3_tubeAt_26
    · have h0 := if_f c2 h0
      refine lv_aload_n hx hb dX3_tubeAt_13 rfl (lv_at hl 0 rfl) ?_
      refine g_rowr K X hr 6 4 (by decide) q155 dX3_tubeAt_14 ?_
      refine lv_iload_n hx hb dX3_tubeAt_17 rfl (lv_at hl 1 rfl) ?_
      refine a_tubes K X hr (inb_2 c1 c2 (by decide)) dX3_tubeAt_18 ?_
      refine lv_goto (tgt := 26) hx hb dX3_tubeAt_19 (by decide) ?_
      subst h0
      subst hQ
      exact w_aret K hr0 (Or.inl ⟨_, rfl⟩) X wC_fstx hsz dX3_tubeAt_26
theorem mC_X3_tubeAt (l : Launch) (D : va_G) (ca : Nat → ClassId) (ar : Nat → Nat → Nat) (ag : Nat → Nat) (P : RowsS) (r : Nat) (G : GlbS) (xs : va_W) (hr : r < 13) (a1 : Int32) (res : Nat) (h0 : f_X3_tubeAt (P r) a1 = res) (sz : Nat) : Met l yX3_tubeAt (ws_ yX3_tubeAt cX3_tubeAt 2 (some (.object "SlantGauges$Tube"))) rm_X3_tubeAt (PCw D ca (wC ar ag ca P G ++ xs) sz [.ref (ar r 0), .int a1]) (QMw D (wC ar ag ca P G ++ xs) (wC ar ag ca P G ++ xs) sz (some (.ref (ar r (res + 5))))) 0 0 (AL (wC ar ag ca P G ++ xs) sz) := by
  have k := m_X3_tubeAt l D ca ar ag P r (P r) G xs hr a1 res h0 sz
  simpa only [up_self] using k
theorem lt_X3_tubeAt {R : RowS} {k : Int32} {x : Nat} (h : x = f_X3_tubeAt R k) : x < 13 := by
  subst h; unfold f_X3_tubeAt
  split
  · decide
  · split
    · decide
    · next h1 h2 => exact in_lt12 (inb_2 h1 h2 (by decide))
-- X3_copyFrom
def b_X3_copyFrom_103  (R_103 : RowS) : Option RowS :=
  some R_103
def l_X3_copyFrom_76 (R2 : RowS) (z76_2 : Int32) (Rz_76 : RowS) : Option ((Int32 × RowS) ⊕ RowS) :=
  if (Rz_76.1 0 2) ≤ z76_2 then
    some (.inr Rz_76)
  else
    lt (f_X3_tubeAt Rz_76 z76_2) fun x10 =>
    lt (x10) fun j11 =>
    lt (f_X3_tubeAt R2 z76_2) fun x12 =>
    lt (x12) fun j13 =>
    lt (f_X6_copyFrom (Rz_76.1 (j11 + 5)) (R2.1 (j13 + 5))) fun x14 =>
    lt (stT Rz_76 (j11 + 5) x14) fun Rv15 =>
    lt (z76_2 + 1) fun x16 =>
    some (.inl (x16, Rv15))
def b_X3_copyFrom_52 (n : Nat) (R2 : RowS) (R_52 : RowS) : Option RowS :=
  lt (f_X1_copyFrom (R_52.1 (0 + 2), R_52.2 (0 + 2)) (R2.1 (0 + 2), R2.2 (0 + 2))) fun x5 =>
  lt (stL R_52 (0 + 2) x5) fun Rv6 =>
  lt (f_X1_copyFrom (Rv6.1 (1 + 2), Rv6.2 (1 + 2)) (R2.1 (1 + 2), R2.2 (1 + 2))) fun x7 =>
  lt (stL Rv6 (1 + 2) x7) fun Rv8 =>
  ob (wloop (fun t => l_X3_copyFrom_76 R2 t.1 t.2) n (0, Rv8)) (fun t => b_X3_copyFrom_103 t)
def l_X3_copyFrom_26 (R2 : RowS) (z26_2 : Int32) (Rz_26 : RowS) : Option ((Int32 × RowS) ⊕ RowS) :=
  if 8 ≤ z26_2 then
    some (.inr Rz_26)
  else
    lt (f_X3_pressureAt R2 z26_2) fun x17 =>
    if 0 ≤ z26_2.toInt ∧ z26_2.toInt < 8 then
      lt (si Rz_26 1 z26_2.toNatClampNeg x17) fun Rv19 =>
      lt (z26_2 + 1) fun x20 =>
      some (.inl (x20, Rv19))
    else none
def f_X3_copyFrom (n : Nat) (R : RowS) (R2 : RowS) : Option RowS :=
  lt (si R 0 0 (R2.1 0 0)) fun Rv1 =>
  lt (si Rv1 0 1 (R2.1 0 1)) fun Rv2 =>
  lt (si Rv2 0 2 (R2.1 0 2)) fun Rv3 =>
  ob (wloop (fun t => l_X3_copyFrom_26 R2 t.1 t.2) n (0, Rv3)) (fun t => b_X3_copyFrom_52 n R2 t)
abbrev rm_X3_copyFrom : Room := { frames := 2, cells := 0, slots := 0, locals := 44 }
set_option maxRecDepth 100000 in
set_option maxHeartbeats 4000000 in
theorem m_X3_copyFrom (l : Launch) (D : va_G) (ca : Nat → ClassId) (ar : Nat → Nat → Nat) (ag : Nat → Nat) (n : Nat) (P : RowsS) (r : Nat) (R : RowS) (G : GlbS) (xs : va_W) (hr : r < 13) (r2 : Nat) (hr2 : r2 < 13) (hne : r2 ≠ r) (R' : RowS) (h0 : f_X3_copyFrom n R (P r2) = some R') (sz : Nat) : Met l yX3_copyFrom (ws_ yX3_copyFrom cX3_copyFrom 3 none) rm_X3_copyFrom (PCw D ca (wC ar ag ca (va_up P r R) G ++ xs) sz [.ref (ar r 0), .ref (ar r2 0)]) (QMw D (wC ar ag ca (va_up P r R) G ++ xs) (wC ar ag ca (va_up P r (R')) G ++ xs) sz none) 0 0 (AL (wC ar ag ca (va_up P r R) G ++ xs) sz) := by
  refine met_of (by decide) (Nat.le_of_ble_eq_true rfl) (fun p e s m args below meth c K hr0 X hsz ls hl => ?_)
  have K : MC D ca p s m args meth c cX3_copyFrom 3 RX3 := K
  have hx := K.1
  have hb := K.2.1
  have hl : lv_has ls 3 [(0, .ref (ar r 0)), (1, .ref (ar r2 0))] := hl
  generalize hR2 : P r2 = R2 at h0
  generalize hQ : MQ below _ args s 0 0 _ = Q
  unfold f_X3_copyFrom at h0
  suffices Z : ∀ (H : Heap) (locs : List Loc) (X : RW D (wC ar ag ca (va_up P r R) G ++ xs) s.heap H locs), W p l e rm_X3_copyFrom s m args below meth c H locs 0 0 Q (F0 m 0 ls []) from Z _ _ X
  intro H locs X
  have J103 : ∀ (R_103 : RowS) (H : Heap) (locs : List Loc) (X : RW D (wC ar ag ca (va_up P r R_103) G ++ xs) s.heap H locs) (ls : Array Slot) (hl : lv_has ls 3 []) (h0 : b_X3_copyFrom_103 R_103 = some R'), W p l e rm_X3_copyFrom s m args below meth c H locs 0 0 Q (F0 m 103 ls []) := by
    intro R_103 H locs X ls hl h0
    unfold b_X3_copyFrom_103 at h0
    have h0 := Option.some.inj h0
    subst h0
    subst hQ
    exact w_vret K hr0 X wC_fstx hsz dX3_copyFrom_103
  have J52 : ∀ (R_52 : RowS) (H : Heap) (locs : List Loc) (X : RW D (wC ar ag ca (va_up P r R_52) G ++ xs) s.heap H locs) (ls : Array Slot) (hl : lv_has ls 3 [(0, .ref (ar r 0)), (1, .ref (ar r2 0))]) (h0 : b_X3_copyFrom_52 n R2 R_52 = some R'), W p l e rm_X3_copyFrom s m args below meth c H locs 0 0 Q (F0 m 52 ls []) := by
    intro R_52 H locs X ls hl h0
    unfold b_X3_copyFrom_52 at h0
    refine lv_aload_n hx hb dX3_copyFrom_52 rfl (lv_at hl 0 rfl) ?_
    refine g_rowr K X hr 4 2 (by decide) q153 dX3_copyFrom_53 ?_
    refine lv_aload_n hx hb dX3_copyFrom_56 rfl (lv_at hl 1 rfl) ?_
    refine g_rowr K X hr2 4 2 (by decide) q153 dX3_copyFrom_57 ?_
    obtain ⟨x5, ex5, h0⟩ := lt_out h0
    obtain ⟨Rv6, eRv6, h0⟩ := lt_out h0
    have kx5 := mR_X1_copyFrom l D ca ar ag P r 0 R_52 G xs hr (by decide) r2 0 hr2 (by decide) hne x5 (by rw [upR_n hne, hR2]; exact ex5.symm) H.size
    rw [← eRv6] at kx5
    refine w_callV0 K X wC_fstx kx5 hl.1 1 q604 q605 q606 q18 q607 hv_X1_copyFrom ⟨⟨Nat.le_of_ble_eq_true rfl, Nat.le_of_ble_eq_true rfl⟩, rfl, rfl⟩ (pl_leg hr (by decide)) rfl rfl rfl rfl (Nat.le_of_ble_eq_true rfl) dX3_copyFrom_60 ⟨Nat.le_of_ble_eq_true rfl, Nat.le_of_ble_eq_true rfl⟩ rfl (fun H locs X => ?_)
    refine lv_aload_n hx hb dX3_copyFrom_63 rfl (lv_at hl 0 rfl) ?_
    refine g_rowr K X hr 5 3 (by decide) q154 dX3_copyFrom_64 ?_
    refine lv_aload_n hx hb dX3_copyFrom_67 rfl (lv_at hl 1 rfl) ?_
    refine g_rowr K X hr2 5 3 (by decide) q154 dX3_copyFrom_68 ?_
    obtain ⟨x7, ex7, h0⟩ := lt_out h0
    obtain ⟨Rv8, eRv8, h0⟩ := lt_out h0
    have kx7 := mR_X1_copyFrom l D ca ar ag P r 1 Rv6 G xs hr (by decide) r2 1 hr2 (by decide) hne x7 (by rw [upR_n hne, hR2]; exact ex7.symm) H.size
    rw [← eRv8] at kx7
    refine w_callV0 K X wC_fstx kx7 hl.1 1 q604 q605 q606 q18 q607 hv_X1_copyFrom ⟨⟨Nat.le_of_ble_eq_true rfl, Nat.le_of_ble_eq_true rfl⟩, rfl, rfl⟩ (pl_leg hr (by decide)) rfl rfl rfl rfl (Nat.le_of_ble_eq_true rfl) dX3_copyFrom_71 ⟨Nat.le_of_ble_eq_true rfl, Nat.le_of_ble_eq_true rfl⟩ rfl (fun H locs X => ?_)
    refine lv_iconst (v := 0) hx hb dX3_copyFrom_74 (by decide) ?_
    refine lv_istore_n (lv' := [(2, .int 0), (0, .ref (ar r 0)), (1, .ref (ar r2 0))]) hx hb dX3_copyFrom_75 rfl hl (by decide) rfl (fun ls hl => ?_)
    obtain ⟨e_1, he1, h0⟩ := ob_out h0
    have K76 : ∀ (k : Nat) (z76_2 : Int32) (Rz_76 : RowS) (H : Heap) (locs : List Loc) (X : RW D (wC ar ag ca (va_up P r Rz_76) G ++ xs) s.heap H locs) (ls : Array Slot) (hl : lv_has ls 3 [(0, .ref (ar r 0)), (1, .ref (ar r2 0)), (2, .int z76_2)]) (hw : wloop (fun t => l_X3_copyFrom_76 R2 t.1 t.2) k (z76_2, Rz_76) = some e_1), W p l e rm_X3_copyFrom s m args below meth c H locs 0 0 Q (F0 m 76 ls []) := by
      intro k
      induction k with
      | zero => intro z76_2 Rz_76 H locs X ls hl hw; exact (wloop_0 hw).elim
      | succ k ih1 =>
        intro z76_2 Rz_76 H locs X ls hl hw
        obtain ⟨x_1, h1, hx1⟩ := wloop_out hw
        have h1 : l_X3_copyFrom_76 R2 z76_2 Rz_76 = some x_1 := h1
        unfold l_X3_copyFrom_76 at h1
        refine lv_iload_n hx hb dX3_copyFrom_76 rfl (lv_at hl 2 rfl) ?_
        refine lv_aload_n hx hb dX3_copyFrom_77 rfl (lv_at hl 0 rfl) ?_
        refine g_rowi K X hr (upR_1 _) 2 (by decide) q149 dX3_copyFrom_78 ?_
        refine lv_icmp_ge (tgt := 103) hx hb dX3_copyFrom_81 (by decide) (fun c9 => ?_) (fun c9 => ?_)
        · have h1 := if_t c9 h1
          have q1 := wl_r h1 hx1
          exact J103 Rz_76 H locs X ls (lv_sub hl [] rfl) (by rw [q1] at h0; exact h0)
        · have h1 := if_f c9 h1
          refine lv_aload_n hx hb dX3_copyFrom_84 rfl (lv_at hl 0 rfl) ?_
          refine lv_iload_n hx hb dX3_copyFrom_85 rfl (lv_at hl 2 rfl) ?_
          obtain ⟨x10, ex10, h1⟩ := lt_out h1
          have kx10 := m_X3_tubeAt l D ca ar ag P r Rz_76 G xs hr z76_2 x10 ex10.symm H.size
          refine w_callV0 K X wC_fstx kx10 hl.1 1 q574 q575 q576 q17 q577 hv_X3_tubeAt ⟨⟨Nat.le_of_ble_eq_true rfl, Nat.le_of_ble_eq_true rfl⟩, rfl, rfl⟩ (pl_rowo hr) rfl rfl rfl rfl (Nat.le_of_ble_eq_true rfl) dX3_copyFrom_86 ⟨Nat.le_of_ble_eq_true rfl, Nat.le_of_ble_eq_true rfl⟩ rfl (fun H locs X => ?_)
          obtain ⟨j11, ej11, h1⟩ := lt_out h1
          rw [← ej11]
          have hj11 : j11 < 13 := by rw [ej11]; exact lt_X3_tubeAt ex10
          refine lv_aload_n hx hb dX3_copyFrom_89 rfl (lv_at hl 1 rfl) ?_
          refine lv_iload_n hx hb dX3_copyFrom_90 rfl (lv_at hl 2 rfl) ?_
          obtain ⟨x12, ex12, h1⟩ := lt_out h1
          have kx12 := mC_X3_tubeAt l D ca ar ag (va_up P r Rz_76) r2 G xs hr2 z76_2 x12 (by rw [upR_n hne, hR2]; exact ex12.symm) H.size
          refine w_callV0 K X wC_fstx kx12 hl.1 1 q574 q575 q576 q17 q577 hv_X3_tubeAt ⟨⟨Nat.le_of_ble_eq_true rfl, Nat.le_of_ble_eq_true rfl⟩, rfl, rfl⟩ (pl_rowo hr2) rfl rfl rfl rfl (Nat.le_of_ble_eq_true rfl) dX3_copyFrom_91 ⟨Nat.le_of_ble_eq_true rfl, Nat.le_of_ble_eq_true rfl⟩ rfl (fun H locs X => ?_)
          obtain ⟨j13, ej13, h1⟩ := lt_out h1
          rw [← ej13]
          have hj13 : j13 < 13 := by rw [ej13]; exact lt_X3_tubeAt ex12
          obtain ⟨x14, ex14, h1⟩ := lt_out h1
          obtain ⟨Rv15, eRv15, h1⟩ := lt_out h1
          have kx14 := mR_X6_copyFrom l D ca ar ag P r j11 Rz_76 G xs hr hj11 r2 j13 hr2 hj13 (Or.inl hne) x14 (by rw [upR_n hne, hR2]; exact ex14.symm) H.size
          rw [← eRv15] at kx14
          refine w_callV0 K X wC_fstx kx14 hl.1 1 q608 q609 q610 q19 q611 hv_X6_copyFrom ⟨⟨Nat.le_of_ble_eq_true rfl, Nat.le_of_ble_eq_true rfl⟩, rfl, rfl⟩ (pl_tube hr hj11) rfl rfl rfl rfl (Nat.le_of_ble_eq_true rfl) dX3_copyFrom_94 ⟨Nat.le_of_ble_eq_true rfl, Nat.le_of_ble_eq_true rfl⟩ rfl (fun H locs X => ?_)
          obtain ⟨x16, ex16, h1⟩ := lt_out h1
          refine lv_iinc (v := x16) (lv' := [(2, .int x16), (0, .ref (ar r 0)), (1, .ref (ar r2 0))]) hx hb dX3_copyFrom_97 hl (k := 2) rfl (by rw [ex16]; rfl) (by decide) rfl (fun ls hl => ?_)
          refine lv_goto (tgt := 76) hx hb dX3_copyFrom_100 (by decide) ?_
          exact ih1 x16 Rv15 H locs X ls (lv_sub hl [1, 2, 0] rfl) (wl_l h1 hx1)
    exact K76 n 0 Rv8 H locs X ls (lv_sub hl [1, 2, 0] rfl) he1
  refine lv_aload_n hx hb dX3_copyFrom_0 rfl (lv_at hl 0 rfl) ?_
  refine lv_aload_n hx hb dX3_copyFrom_1 rfl (lv_at hl 1 rfl) ?_
  refine g_rowi K X hr2 (congrArg (fun z => z.1 0) ((upR_n hne).trans hR2)) 0 (by decide) q144 dX3_copyFrom_2 ?_
  obtain ⟨Rv1, eRv1, h0⟩ := lt_out h0
  refine p_rowi K X hr 0 (by decide) (upR_si eRv1) q144 dX3_copyFrom_5 (fun H locs X => ?_)
  refine lv_aload_n hx hb dX3_copyFrom_8 rfl (lv_at hl 0 rfl) ?_
  refine lv_aload_n hx hb dX3_copyFrom_9 rfl (lv_at hl 1 rfl) ?_
  refine g_rowi K X hr2 (congrArg (fun z => z.1 0) ((upR_n hne).trans hR2)) 1 (by decide) q147 dX3_copyFrom_10 ?_
  obtain ⟨Rv2, eRv2, h0⟩ := lt_out h0
  refine p_rowi K X hr 1 (by decide) (upR_si eRv2) q147 dX3_copyFrom_13 (fun H locs X => ?_)
  refine lv_aload_n hx hb dX3_copyFrom_16 rfl (lv_at hl 0 rfl) ?_
  refine lv_aload_n hx hb dX3_copyFrom_17 rfl (lv_at hl 1 rfl) ?_
  refine g_rowi K X hr2 (congrArg (fun z => z.1 0) ((upR_n hne).trans hR2)) 2 (by decide) q149 dX3_copyFrom_18 ?_
  obtain ⟨Rv3, eRv3, h0⟩ := lt_out h0
  refine p_rowi K X hr 2 (by decide) (upR_si eRv3) q149 dX3_copyFrom_21 (fun H locs X => ?_)
  refine lv_iconst (v := 0) hx hb dX3_copyFrom_24 (by decide) ?_
  refine lv_istore_n (lv' := [(2, .int 0), (0, .ref (ar r 0)), (1, .ref (ar r2 0))]) hx hb dX3_copyFrom_25 rfl hl (by decide) rfl (fun ls hl => ?_)
  obtain ⟨e_1, he1, h0⟩ := ob_out h0
  have K26 : ∀ (k : Nat) (z26_2 : Int32) (Rz_26 : RowS) (H : Heap) (locs : List Loc) (X : RW D (wC ar ag ca (va_up P r Rz_26) G ++ xs) s.heap H locs) (ls : Array Slot) (hl : lv_has ls 3 [(0, .ref (ar r 0)), (1, .ref (ar r2 0)), (2, .int z26_2)]) (hw : wloop (fun t => l_X3_copyFrom_26 R2 t.1 t.2) k (z26_2, Rz_26) = some e_1), W p l e rm_X3_copyFrom s m args below meth c H locs 0 0 Q (F0 m 26 ls []) := by
    intro k
    induction k with
    | zero => intro z26_2 Rz_26 H locs X ls hl hw; exact (wloop_0 hw).elim
    | succ k ih1 =>
      intro z26_2 Rz_26 H locs X ls hl hw
      obtain ⟨x_1, h1, hx1⟩ := wloop_out hw
      have h1 : l_X3_copyFrom_26 R2 z26_2 Rz_26 = some x_1 := h1
      unfold l_X3_copyFrom_26 at h1
      refine lv_iload_n hx hb dX3_copyFrom_26 rfl (lv_at hl 2 rfl) ?_
      refine lv_aload_n hx hb dX3_copyFrom_27 rfl (lv_at hl 0 rfl) ?_
      refine g_rowr K X hr 3 1 (by decide) q152 dX3_copyFrom_28 ?_
      refine l_press K X hr dX3_copyFrom_31 ?_
      refine lv_icmp_ge (tgt := 52) hx hb dX3_copyFrom_32 (by decide) (fun c4 => ?_) (fun c4 => ?_)
      · have h1 := if_t c4 h1
        have q1 := wl_r h1 hx1
        exact J52 Rz_26 H locs X ls (lv_sub hl [0, 1] rfl) (by rw [q1] at h0; exact h0)
      · have h1 := if_f c4 h1
        refine lv_aload_n hx hb dX3_copyFrom_35 rfl (lv_at hl 0 rfl) ?_
        refine g_rowr K X hr 3 1 (by decide) q152 dX3_copyFrom_36 ?_
        refine lv_iload_n hx hb dX3_copyFrom_39 rfl (lv_at hl 2 rfl) ?_
        refine lv_aload_n hx hb dX3_copyFrom_40 rfl (lv_at hl 1 rfl) ?_
        refine lv_iload_n hx hb dX3_copyFrom_41 rfl (lv_at hl 2 rfl) ?_
        obtain ⟨x17, ex17, h1⟩ := lt_out h1
        have kx17 := mC_X3_pressureAt l D ca ar ag (va_up P r Rz_26) r2 G xs hr2 z26_2 x17 (by rw [upR_n hne, hR2]; exact ex17.symm) H.size
        refine w_callV0 K X wC_fstx kx17 hl.1 1 q600 q601 q602 q17 q603 hv_X3_pressureAt ⟨⟨Nat.le_of_ble_eq_true rfl, Nat.le_of_ble_eq_true rfl⟩, rfl, rfl⟩ (pl_rowo hr2) rfl rfl rfl rfl (Nat.le_of_ble_eq_true rfl) dX3_copyFrom_42 ⟨Nat.le_of_ble_eq_true rfl, Nat.le_of_ble_eq_true rfl⟩ rfl (fun H locs X => ?_)
        obtain ⟨c18, h1⟩ := if_o h1
        obtain ⟨Rv19, eRv19, h1⟩ := lt_out h1
        refine s_press K X hr (inb_vp c18) (upR_si eRv19) dX3_copyFrom_45 (fun H locs X => ?_)
        obtain ⟨x20, ex20, h1⟩ := lt_out h1
        refine lv_iinc (v := x20) (lv' := [(2, .int x20), (0, .ref (ar r 0)), (1, .ref (ar r2 0))]) hx hb dX3_copyFrom_46 hl (k := 2) rfl (by rw [ex20]; rfl) (by decide) rfl (fun ls hl => ?_)
        refine lv_goto (tgt := 26) hx hb dX3_copyFrom_49 (by decide) ?_
        exact ih1 x20 Rv19 H locs X ls (lv_sub hl [1, 2, 0] rfl) (wl_l h1 hx1)
  exact K26 n 0 Rv3 H locs X ls (lv_sub hl [1, 2, 0] rfl) he1
theorem mC_X3_copyFrom (l : Launch) (D : va_G) (ca : Nat → ClassId) (ar : Nat → Nat → Nat) (ag : Nat → Nat) (n : Nat) (P : RowsS) (r : Nat) (G : GlbS) (xs : va_W) (hr : r < 13) (r2 : Nat) (hr2 : r2 < 13) (hne : r2 ≠ r) (R' : RowS) (h0 : f_X3_copyFrom n (P r) (P r2) = some R') (sz : Nat) : Met l yX3_copyFrom (ws_ yX3_copyFrom cX3_copyFrom 3 none) rm_X3_copyFrom (PCw D ca (wC ar ag ca P G ++ xs) sz [.ref (ar r 0), .ref (ar r2 0)]) (QMw D (wC ar ag ca P G ++ xs) (wC ar ag ca (va_up P r R') G ++ xs) sz none) 0 0 (AL (wC ar ag ca P G ++ xs) sz) := by
  have k := m_X3_copyFrom l D ca ar ag n P r (P r) G xs hr r2 hr2 hne R' h0 sz
  simpa only [up_self] using k
-- X3_legAt
def f_X3_legAt (R : RowS) (a1 : Int32) : Nat :=
  if a1 = 0 then
    0
  else
    1
abbrev rm_X3_legAt : Room := { frames := 0, cells := 0, slots := 0, locals := 0 }
set_option maxRecDepth 100000 in
set_option maxHeartbeats 4000000 in
theorem m_X3_legAt (l : Launch) (D : va_G) (ca : Nat → ClassId) (ar : Nat → Nat → Nat) (ag : Nat → Nat) (P : RowsS) (r : Nat) (R : RowS) (G : GlbS) (xs : va_W) (hr : r < 13) (a1 : Int32) (res : Nat) (h0 : f_X3_legAt R a1 = res) (sz : Nat) : Met l yX3_legAt (ws_ yX3_legAt cX3_legAt 2 (some (.object "SlantGauges$Leg"))) rm_X3_legAt (PCw D ca (wC ar ag ca (va_up P r R) G ++ xs) sz [.ref (ar r 0), .int a1]) (QMw D (wC ar ag ca (va_up P r R) G ++ xs) (wC ar ag ca (va_up P r R) G ++ xs) sz (some (.ref (ar r (res + 2))))) 0 0 (AL (wC ar ag ca (va_up P r R) G ++ xs) sz) := by
  refine met_of (by decide) (Nat.le_of_ble_eq_true rfl) (fun p e s m args below meth c K hr0 X hsz ls hl => ?_)
  have K : MC D ca p s m args meth c cX3_legAt 2 RX3 := K
  have hx := K.1
  have hb := K.2.1
  have hl : lv_has ls 2 [(0, .ref (ar r 0)), (1, .int a1)] := hl
  generalize hQ : MQ below _ args s 0 0 _ = Q
  unfold f_X3_legAt at h0
  suffices Z : ∀ (H : Heap) (locs : List Loc) (X : RW D (wC ar ag ca (va_up P r R) G ++ xs) s.heap H locs), W p l e rm_X3_legAt s m args below meth c H locs 0 0 Q (F0 m 0 ls []) from Z _ _ X
  intro H locs X
  refine lv_iload_n hx hb dX3_legAt_0 rfl (lv_at hl 1 rfl) ?_
  refine lv_if_ne (tgt := 11) hx hb dX3_legAt_1 (by decide) (fun c1 => ?_) (fun c1 => ?_)
  · have h0 := if_f c1 h0
    refine lv_aload_n hx hb dX3_legAt_11 rfl (lv_at hl 0 rfl) ?_
    refine g_rowr K X hr 5 3 (by decide) q154 dX3_legAt_12 ?_
    subst h0
    subst hQ
    exact w_aret K hr0 (Or.inl ⟨_, rfl⟩) X wC_fstx hsz dX3_legAt_15
  · have h0 := if_t c1 h0
    refine lv_aload_n hx hb dX3_legAt_4 rfl (lv_at hl 0 rfl) ?_
    refine g_rowr K X hr 4 2 (by decide) q153 dX3_legAt_5 ?_
    refine lv_goto (tgt := 15) hx hb dX3_legAt_8 (by decide) ?_
    subst h0
    subst hQ
    exact w_aret K hr0 (Or.inl ⟨_, rfl⟩) X wC_fstx hsz dX3_legAt_15
theorem mC_X3_legAt (l : Launch) (D : va_G) (ca : Nat → ClassId) (ar : Nat → Nat → Nat) (ag : Nat → Nat) (P : RowsS) (r : Nat) (G : GlbS) (xs : va_W) (hr : r < 13) (a1 : Int32) (res : Nat) (h0 : f_X3_legAt (P r) a1 = res) (sz : Nat) : Met l yX3_legAt (ws_ yX3_legAt cX3_legAt 2 (some (.object "SlantGauges$Leg"))) rm_X3_legAt (PCw D ca (wC ar ag ca P G ++ xs) sz [.ref (ar r 0), .int a1]) (QMw D (wC ar ag ca P G ++ xs) (wC ar ag ca P G ++ xs) sz (some (.ref (ar r (res + 2))))) 0 0 (AL (wC ar ag ca P G ++ xs) sz) := by
  have k := m_X3_legAt l D ca ar ag P r (P r) G xs hr a1 res h0 sz
  simpa only [up_self] using k
theorem lt_X3_legAt {R : RowS} {k : Int32} {x : Nat} (h : x = f_X3_legAt R k) : x < 2 := by
  subst h; unfold f_X3_legAt
  split <;> decide
-- X3_press
def f_X3_press (R : RowS) (a1 : Int32) (a2 : Int32) : RowS :=
  if a1 < 0 then
    R
  else
    if 8 ≤ a1 then
      R
    else
      lt (si R 1 a1.toNatClampNeg a2) fun Rv3 =>
      Rv3
abbrev rm_X3_press : Room := { frames := 0, cells := 0, slots := 0, locals := 0 }
set_option maxRecDepth 100000 in
set_option maxHeartbeats 4000000 in
theorem m_X3_press (l : Launch) (D : va_G) (ca : Nat → ClassId) (ar : Nat → Nat → Nat) (ag : Nat → Nat) (P : RowsS) (r : Nat) (R : RowS) (G : GlbS) (xs : va_W) (hr : r < 13) (a1 : Int32) (a2 : Int32) (R' : RowS) (h0 : f_X3_press R a1 a2 = R') (sz : Nat) : Met l yX3_press (ws_ yX3_press cX3_press 3 none) rm_X3_press (PCw D ca (wC ar ag ca (va_up P r R) G ++ xs) sz [.ref (ar r 0), .int a1, .int a2]) (QMw D (wC ar ag ca (va_up P r R) G ++ xs) (wC ar ag ca (va_up P r (R')) G ++ xs) sz none) 0 0 (AL (wC ar ag ca (va_up P r R) G ++ xs) sz) := by
  refine met_of (by decide) (Nat.le_of_ble_eq_true rfl) (fun p e s m args below meth c K hr0 X hsz ls hl => ?_)
  have K : MC D ca p s m args meth c cX3_press 3 RX3 := K
  have hx := K.1
  have hb := K.2.1
  have hl : lv_has ls 3 [(0, .ref (ar r 0)), (1, .int a1), (2, .int a2)] := hl
  generalize hQ : MQ below _ args s 0 0 _ = Q
  unfold f_X3_press at h0
  suffices Z : ∀ (H : Heap) (locs : List Loc) (X : RW D (wC ar ag ca (va_up P r R) G ++ xs) s.heap H locs), W p l e rm_X3_press s m args below meth c H locs 0 0 Q (F0 m 0 ls []) from Z _ _ X
  intro H locs X
  refine lv_iload_n hx hb dX3_press_0 rfl (lv_at hl 1 rfl) ?_
  refine lv_if_lt (tgt := 20) hx hb dX3_press_1 (by decide) (fun c1 => ?_) (fun c1 => ?_)
  · have h0 := if_t c1 h0
    subst h0
    subst hQ
    exact w_vret K hr0 X wC_fstx hsz dX3_press_20
  · have h0 := if_f c1 h0
    refine lv_iload_n hx hb dX3_press_4 rfl (lv_at hl 1 rfl) ?_
    refine lv_aload_n hx hb dX3_press_5 rfl (lv_at hl 0 rfl) ?_
    refine g_rowr K X hr 3 1 (by decide) q152 dX3_press_6 ?_
    refine l_press K X hr dX3_press_9 ?_
    refine lv_icmp_ge (tgt := 20) hx hb dX3_press_10 (by decide) (fun c2 => ?_) (fun c2 => ?_)
    · have h0 := if_t c2 h0
      subst h0
      subst hQ
      exact w_vret K hr0 X wC_fstx hsz dX3_press_20
    · have h0 := if_f c2 h0
      refine lv_aload_n hx hb dX3_press_13 rfl (lv_at hl 0 rfl) ?_
      refine g_rowr K X hr 3 1 (by decide) q152 dX3_press_14 ?_
      refine lv_iload_n hx hb dX3_press_17 rfl (lv_at hl 1 rfl) ?_
      refine lv_iload_n hx hb dX3_press_18 rfl (lv_at hl 2 rfl) ?_
      obtain ⟨Rv3, eRv3, h0⟩ := lt_out h0
      refine s_press K X hr (inb_2 c1 c2 (by decide)) (upR_si eRv3) dX3_press_19 (fun H locs X => ?_)
      subst h0
      subst hQ
      exact w_vret K hr0 X wC_fstx hsz dX3_press_20
theorem mC_X3_press (l : Launch) (D : va_G) (ca : Nat → ClassId) (ar : Nat → Nat → Nat) (ag : Nat → Nat) (P : RowsS) (r : Nat) (G : GlbS) (xs : va_W) (hr : r < 13) (a1 : Int32) (a2 : Int32) (R' : RowS) (h0 : f_X3_press (P r) a1 a2 = R') (sz : Nat) : Met l yX3_press (ws_ yX3_press cX3_press 3 none) rm_X3_press (PCw D ca (wC ar ag ca P G ++ xs) sz [.ref (ar r 0), .int a1, .int a2]) (QMw D (wC ar ag ca P G ++ xs) (wC ar ag ca (va_up P r R') G ++ xs) sz none) 0 0 (AL (wC ar ag ca P G ++ xs) sz) := by
  have k := m_X3_press l D ca ar ag P r (P r) G xs hr a1 a2 R' h0 sz
  simpa only [up_self] using k
-- X3_append
def f_X3_append (R : RowS) : (Nat × RowS) :=
  if (R.1 0 2) < 12 then
    lt (si R 0 2 ((R.1 0 2) + 1)) fun Rv2 =>
    lt (f_X3_tubeAt Rv2 ((Rv2.1 0 2) - 1)) fun x3 =>
    lt (x3) fun j4 =>
    (j4, Rv2)
  else
    (12, R)
abbrev rm_X3_append : Room := { frames := 1, cells := 0, slots := 0, locals := 21 }
set_option maxRecDepth 100000 in
set_option maxHeartbeats 4000000 in
theorem m_X3_append (l : Launch) (D : va_G) (ca : Nat → ClassId) (ar : Nat → Nat → Nat) (ag : Nat → Nat) (P : RowsS) (r : Nat) (R : RowS) (G : GlbS) (xs : va_W) (hr : r < 13) (res : Nat) (R' : RowS) (h0 : f_X3_append R = (res, R')) (sz : Nat) : Met l yX3_append (ws_ yX3_append cX3_append 1 (some (.object "SlantGauges$Tube"))) rm_X3_append (PCw D ca (wC ar ag ca (va_up P r R) G ++ xs) sz [.ref (ar r 0)]) (QMw D (wC ar ag ca (va_up P r R) G ++ xs) (wC ar ag ca (va_up P r (R')) G ++ xs) sz (some (.ref (ar r (res + 5))))) 0 0 (AL (wC ar ag ca (va_up P r R) G ++ xs) sz) := by
  refine met_of (by decide) (Nat.le_of_ble_eq_true rfl) (fun p e s m args below meth c K hr0 X hsz ls hl => ?_)
  have K : MC D ca p s m args meth c cX3_append 1 RX3 := K
  have hx := K.1
  have hb := K.2.1
  have hl : lv_has ls 1 [(0, .ref (ar r 0))] := hl
  generalize hQ : MQ below _ args s 0 0 _ = Q
  unfold f_X3_append at h0
  suffices Z : ∀ (H : Heap) (locs : List Loc) (X : RW D (wC ar ag ca (va_up P r R) G ++ xs) s.heap H locs), W p l e rm_X3_append s m args below meth c H locs 0 0 Q (F0 m 0 ls []) from Z _ _ X
  intro H locs X
  refine lv_aload_n hx hb dX3_append_0 rfl (lv_at hl 0 rfl) ?_
  refine g_rowi K X hr (upR_1 _) 2 (by decide) q149 dX3_append_1 ?_
  refine lv_bipush (v := 12) hx hb dX3_append_4 (by decide) ?_
  refine lv_icmp_lt (tgt := 14) hx hb dX3_append_6 (by decide) (fun c1 => ?_) (fun c1 => ?_)
  · have h0 := if_t c1 h0
    refine lv_aload_n hx hb dX3_append_14 rfl (lv_at hl 0 rfl) ?_
    refine lv_dup hx hb dX3_append_15 rfl ?_
    refine g_rowi K X hr (upR_1 _) 2 (by decide) q149 dX3_append_16 ?_
    refine lv_iconst (v := 1) hx hb dX3_append_19 (by decide) ?_
    refine lv_iadd hx hb dX3_append_20 ?_
    obtain ⟨Rv2, eRv2, h0⟩ := lt_out h0
    refine p_rowi K X hr 2 (by decide) (upR_si eRv2) q149 dX3_append_21 (fun H locs X => ?_)
    refine lv_aload_n hx hb dX3_append_24 rfl (lv_at hl 0 rfl) ?_
    refine lv_aload_n hx hb dX3_append_25 rfl (lv_at hl 0 rfl) ?_
    refine g_rowi K X hr (upR_1 _) 2 (by decide) q149 dX3_append_26 ?_
    refine lv_iconst (v := 1) hx hb dX3_append_29 (by decide) ?_
    refine lv_isub hx hb dX3_append_30 ?_
    obtain ⟨x3, ex3, h0⟩ := lt_out h0
    have kx3 := m_X3_tubeAt l D ca ar ag P r Rv2 G xs hr ((Rv2.1 0 2) - 1) x3 ex3.symm H.size
    refine w_callV0 K X wC_fstx kx3 hl.1 1 q574 q575 q576 q17 q577 hv_X3_tubeAt ⟨⟨Nat.le_of_ble_eq_true rfl, Nat.le_of_ble_eq_true rfl⟩, rfl, rfl⟩ (pl_rowo hr) rfl rfl rfl rfl (Nat.le_of_ble_eq_true rfl) dX3_append_31 ⟨Nat.le_of_ble_eq_true rfl, Nat.le_of_ble_eq_true rfl⟩ rfl (fun H locs X => ?_)
    obtain ⟨j4, ej4, h0⟩ := lt_out h0
    rw [← ej4]
    have hj4 : j4 < 13 := by rw [ej4]; exact lt_X3_tubeAt ex3
    obtain ⟨q_0, q_1⟩ := Prod.mk.inj h0
    subst q_0
    subst q_1
    subst hQ
    exact w_aret K hr0 (Or.inl ⟨_, rfl⟩) X wC_fstx hsz dX3_append_34
  · have h0 := if_f c1 h0
    refine lv_aload_n hx hb dX3_append_9 rfl (lv_at hl 0 rfl) ?_
    refine g_rowr K X hr 7 17 (by decide) q156 dX3_append_10 ?_
    obtain ⟨q_0, q_1⟩ := Prod.mk.inj h0
    subst q_0
    subst q_1
    subst hQ
    exact w_aret K hr0 (Or.inl ⟨_, rfl⟩) X wC_fstx hsz dX3_append_13
theorem mC_X3_append (l : Launch) (D : va_G) (ca : Nat → ClassId) (ar : Nat → Nat → Nat) (ag : Nat → Nat) (P : RowsS) (r : Nat) (G : GlbS) (xs : va_W) (hr : r < 13) (res : Nat) (R' : RowS) (h0 : f_X3_append (P r) = (res, R')) (sz : Nat) : Met l yX3_append (ws_ yX3_append cX3_append 1 (some (.object "SlantGauges$Tube"))) rm_X3_append (PCw D ca (wC ar ag ca P G ++ xs) sz [.ref (ar r 0)]) (QMw D (wC ar ag ca P G ++ xs) (wC ar ag ca (va_up P r R') G ++ xs) sz (some (.ref (ar r (res + 5))))) 0 0 (AL (wC ar ag ca P G ++ xs) sz) := by
  have k := m_X3_append l D ca ar ag P r (P r) G xs hr  res R' h0 sz
  simpa only [up_self] using k
theorem lt_X3_append {R : RowS} {x : Nat × RowS} (h : x = f_X3_append R) : x.1 < 13 := by
  subst h; unfold f_X3_append
  split
  · simp only [lt]; exact lt_X3_tubeAt rfl
  · show 12 < 13; decide
-- X3_remove
def b_X3_remove_33  (R_33 : RowS) : Option RowS :=
  lt (si R_33 0 2 ((R_33.1 0 2) - 1)) fun Rv2 =>
  some Rv2
def l_X3_remove_2  (z2_2 : Int32) (Rz_2 : RowS) : Option ((Int32 × RowS) ⊕ RowS) :=
  if ((Rz_2.1 0 2) - 1) ≤ z2_2 then
    some (.inr Rz_2)
  else
    lt (f_X3_tubeAt Rz_2 z2_2) fun x3 =>
    lt (x3) fun j4 =>
    lt (f_X3_tubeAt Rz_2 (z2_2 + 1)) fun x5 =>
    lt (x5) fun j6 =>
    if ¬ j6 = j4 then
      lt (f_X6_copyFrom (Rz_2.1 (j4 + 5)) (Rz_2.1 (j6 + 5))) fun x8 =>
      lt (stT Rz_2 (j4 + 5) x8) fun Rv9 =>
      lt (z2_2 + 1) fun x10 =>
      some (.inl (x10, Rv9))
    else none
def f_X3_remove (n : Nat) (R : RowS) (a1 : Int32) : Option RowS :=
  ob (wloop (fun t => l_X3_remove_2 t.1 t.2) n (a1, R)) (fun t => b_X3_remove_33 t)
abbrev rm_X3_remove : Room := { frames := 2, cells := 0, slots := 0, locals := 44 }
set_option maxRecDepth 100000 in
set_option maxHeartbeats 4000000 in
theorem m_X3_remove (l : Launch) (D : va_G) (ca : Nat → ClassId) (ar : Nat → Nat → Nat) (ag : Nat → Nat) (n : Nat) (P : RowsS) (r : Nat) (R : RowS) (G : GlbS) (xs : va_W) (hr : r < 13) (a1 : Int32) (R' : RowS) (h0 : f_X3_remove n R a1 = some R') (sz : Nat) : Met l yX3_remove (ws_ yX3_remove cX3_remove 3 none) rm_X3_remove (PCw D ca (wC ar ag ca (va_up P r R) G ++ xs) sz [.ref (ar r 0), .int a1]) (QMw D (wC ar ag ca (va_up P r R) G ++ xs) (wC ar ag ca (va_up P r (R')) G ++ xs) sz none) 0 0 (AL (wC ar ag ca (va_up P r R) G ++ xs) sz) := by
  refine met_of (by decide) (Nat.le_of_ble_eq_true rfl) (fun p e s m args below meth c K hr0 X hsz ls hl => ?_)
  have K : MC D ca p s m args meth c cX3_remove 3 RX3 := K
  have hx := K.1
  have hb := K.2.1
  have hl : lv_has ls 3 [(0, .ref (ar r 0)), (1, .int a1)] := hl
  generalize hQ : MQ below _ args s 0 0 _ = Q
  unfold f_X3_remove at h0
  suffices Z : ∀ (H : Heap) (locs : List Loc) (X : RW D (wC ar ag ca (va_up P r R) G ++ xs) s.heap H locs), W p l e rm_X3_remove s m args below meth c H locs 0 0 Q (F0 m 0 ls []) from Z _ _ X
  intro H locs X
  have J33 : ∀ (R_33 : RowS) (H : Heap) (locs : List Loc) (X : RW D (wC ar ag ca (va_up P r R_33) G ++ xs) s.heap H locs) (ls : Array Slot) (hl : lv_has ls 3 [(0, .ref (ar r 0))]) (h0 : b_X3_remove_33 R_33 = some R'), W p l e rm_X3_remove s m args below meth c H locs 0 0 Q (F0 m 33 ls []) := by
    intro R_33 H locs X ls hl h0
    unfold b_X3_remove_33 at h0
    refine lv_aload_n hx hb dX3_remove_33 rfl (lv_at hl 0 rfl) ?_
    refine lv_dup hx hb dX3_remove_34 rfl ?_
    refine g_rowi K X hr (upR_1 _) 2 (by decide) q149 dX3_remove_35 ?_
    refine lv_iconst (v := 1) hx hb dX3_remove_38 (by decide) ?_
    refine lv_isub hx hb dX3_remove_39 ?_
    obtain ⟨Rv2, eRv2, h0⟩ := lt_out h0
    refine p_rowi K X hr 2 (by decide) (upR_si eRv2) q149 dX3_remove_40 (fun H locs X => ?_)
    have h0 := Option.some.inj h0
    subst h0
    subst hQ
    exact w_vret K hr0 X wC_fstx hsz dX3_remove_43
  refine lv_iload_n hx hb dX3_remove_0 rfl (lv_at hl 1 rfl) ?_
  refine lv_istore_n (lv' := [(2, .int a1), (0, .ref (ar r 0)), (1, .int a1)]) hx hb dX3_remove_1 rfl hl (by decide) rfl (fun ls hl => ?_)
  obtain ⟨e_1, he1, h0⟩ := ob_out h0
  have K2 : ∀ (k : Nat) (z2_2 : Int32) (Rz_2 : RowS) (H : Heap) (locs : List Loc) (X : RW D (wC ar ag ca (va_up P r Rz_2) G ++ xs) s.heap H locs) (ls : Array Slot) (hl : lv_has ls 3 [(0, .ref (ar r 0)), (2, .int z2_2)]) (hw : wloop (fun t => l_X3_remove_2 t.1 t.2) k (z2_2, Rz_2) = some e_1), W p l e rm_X3_remove s m args below meth c H locs 0 0 Q (F0 m 2 ls []) := by
    intro k
    induction k with
    | zero => intro z2_2 Rz_2 H locs X ls hl hw; exact (wloop_0 hw).elim
    | succ k ih1 =>
      intro z2_2 Rz_2 H locs X ls hl hw
      obtain ⟨x_1, h1, hx1⟩ := wloop_out hw
      have h1 : l_X3_remove_2 z2_2 Rz_2 = some x_1 := h1
      unfold l_X3_remove_2 at h1
      refine lv_iload_n hx hb dX3_remove_2 rfl (lv_at hl 1 rfl) ?_
      refine lv_aload_n hx hb dX3_remove_3 rfl (lv_at hl 0 rfl) ?_
      refine g_rowi K X hr (upR_1 _) 2 (by decide) q149 dX3_remove_4 ?_
      refine lv_iconst (v := 1) hx hb dX3_remove_7 (by decide) ?_
      refine lv_isub hx hb dX3_remove_8 ?_
      refine lv_icmp_ge (tgt := 33) hx hb dX3_remove_9 (by decide) (fun c1 => ?_) (fun c1 => ?_)
      · have h1 := if_t c1 h1
        have q1 := wl_r h1 hx1
        exact J33 Rz_2 H locs X ls (lv_sub hl [0] rfl) (by rw [q1] at h0; exact h0)
      · have h1 := if_f c1 h1
        refine lv_aload_n hx hb dX3_remove_12 rfl (lv_at hl 0 rfl) ?_
        refine lv_iload_n hx hb dX3_remove_13 rfl (lv_at hl 1 rfl) ?_
        obtain ⟨x3, ex3, h1⟩ := lt_out h1
        have kx3 := m_X3_tubeAt l D ca ar ag P r Rz_2 G xs hr z2_2 x3 ex3.symm H.size
        refine w_callV0 K X wC_fstx kx3 hl.1 1 q574 q575 q576 q17 q577 hv_X3_tubeAt ⟨⟨Nat.le_of_ble_eq_true rfl, Nat.le_of_ble_eq_true rfl⟩, rfl, rfl⟩ (pl_rowo hr) rfl rfl rfl rfl (Nat.le_of_ble_eq_true rfl) dX3_remove_14 ⟨Nat.le_of_ble_eq_true rfl, Nat.le_of_ble_eq_true rfl⟩ rfl (fun H locs X => ?_)
        obtain ⟨j4, ej4, h1⟩ := lt_out h1
        rw [← ej4]
        have hj4 : j4 < 13 := by rw [ej4]; exact lt_X3_tubeAt ex3
        refine lv_aload_n hx hb dX3_remove_17 rfl (lv_at hl 0 rfl) ?_
        refine lv_iload_n hx hb dX3_remove_18 rfl (lv_at hl 1 rfl) ?_
        refine lv_iconst (v := 1) hx hb dX3_remove_19 (by decide) ?_
        refine lv_iadd hx hb dX3_remove_20 ?_
        obtain ⟨x5, ex5, h1⟩ := lt_out h1
        have kx5 := m_X3_tubeAt l D ca ar ag P r Rz_2 G xs hr (z2_2 + 1) x5 ex5.symm H.size
        refine w_callV0 K X wC_fstx kx5 hl.1 1 q574 q575 q576 q17 q577 hv_X3_tubeAt ⟨⟨Nat.le_of_ble_eq_true rfl, Nat.le_of_ble_eq_true rfl⟩, rfl, rfl⟩ (pl_rowo hr) rfl rfl rfl rfl (Nat.le_of_ble_eq_true rfl) dX3_remove_21 ⟨Nat.le_of_ble_eq_true rfl, Nat.le_of_ble_eq_true rfl⟩ rfl (fun H locs X => ?_)
        obtain ⟨j6, ej6, h1⟩ := lt_out h1
        rw [← ej6]
        have hj6 : j6 < 13 := by rw [ej6]; exact lt_X3_tubeAt ex5
        obtain ⟨c7, h1⟩ := if_o h1
        obtain ⟨x8, ex8, h1⟩ := lt_out h1
        obtain ⟨Rv9, eRv9, h1⟩ := lt_out h1
        have kx8 := mR_X6_copyFrom l D ca ar ag P r j4 Rz_2 G xs hr hj4 r j6 hr hj6 (Or.inr (by omega)) x8 (by rw [upR_1]; exact ex8.symm) H.size
        rw [← eRv9] at kx8
        refine w_callV0 K X wC_fstx kx8 hl.1 1 q608 q609 q610 q19 q611 hv_X6_copyFrom ⟨⟨Nat.le_of_ble_eq_true rfl, Nat.le_of_ble_eq_true rfl⟩, rfl, rfl⟩ (pl_tube hr hj4) rfl rfl rfl rfl (Nat.le_of_ble_eq_true rfl) dX3_remove_24 ⟨Nat.le_of_ble_eq_true rfl, Nat.le_of_ble_eq_true rfl⟩ rfl (fun H locs X => ?_)
        obtain ⟨x10, ex10, h1⟩ := lt_out h1
        refine lv_iinc (v := x10) (lv' := [(2, .int x10), (0, .ref (ar r 0))]) hx hb dX3_remove_27 hl (k := 1) rfl (by rw [ex10]; rfl) (by decide) rfl (fun ls hl => ?_)
        refine lv_goto (tgt := 2) hx hb dX3_remove_30 (by decide) ?_
        exact ih1 x10 Rv9 H locs X ls (lv_sub hl [1, 0] rfl) (wl_l h1 hx1)
  exact K2 n a1 R H locs X ls (lv_sub hl [1, 0] rfl) he1
theorem mC_X3_remove (l : Launch) (D : va_G) (ca : Nat → ClassId) (ar : Nat → Nat → Nat) (ag : Nat → Nat) (n : Nat) (P : RowsS) (r : Nat) (G : GlbS) (xs : va_W) (hr : r < 13) (a1 : Int32) (R' : RowS) (h0 : f_X3_remove n (P r) a1 = some R') (sz : Nat) : Met l yX3_remove (ws_ yX3_remove cX3_remove 3 none) rm_X3_remove (PCw D ca (wC ar ag ca P G ++ xs) sz [.ref (ar r 0), .int a1]) (QMw D (wC ar ag ca P G ++ xs) (wC ar ag ca (va_up P r R') G ++ xs) sz none) 0 0 (AL (wC ar ag ca P G ++ xs) sz) := by
  have k := m_X3_remove l D ca ar ag n P r (P r) G xs hr a1 R' h0 sz
  simpa only [up_self] using k
-- X3_countInState
def b_X3_countInState_38  (y38_l2 : Int32) : Option Int32 :=
  some y38_l2
def b_X3_countInState_30  (y30_l3 : Int32) (y30_s0 : Int32) (y30_s1 : Int32) : Option ((Int32 × Int32) ⊕ Int32) :=
  lt (y30_s0 + y30_s1) fun x5 =>
  lt (y30_l3 + 1) fun x6 =>
  some (.inl (x5, x6))
def l_X3_countInState_4 (R : RowS) (a1 : Int32) (z4_2 : Int32) (z4_3 : Int32) : Option ((Int32 × Int32) ⊕ Int32) :=
  if (R.1 0 2) ≤ z4_3 then
    some (.inr z4_2)
  else
    lt (f_X3_tubeAt R z4_3) fun x2 =>
    lt (x2) fun j3 =>
    if (R.1 (j3 + 5) 6) = a1 then
      b_X3_countInState_30 z4_3 z4_2 1
    else
      b_X3_countInState_30 z4_3 z4_2 0
def f_X3_countInState (n : Nat) (R : RowS) (a1 : Int32) : Option Int32 :=
  ob (wloop (fun t => l_X3_countInState_4 R a1 t.1 t.2) n (0, 0)) (fun t => b_X3_countInState_38 t)
abbrev rm_X3_countInState : Room := { frames := 1, cells := 0, slots := 0, locals := 21 }
set_option maxRecDepth 100000 in
set_option maxHeartbeats 4000000 in
theorem m_X3_countInState (l : Launch) (D : va_G) (ca : Nat → ClassId) (ar : Nat → Nat → Nat) (ag : Nat → Nat) (n : Nat) (P : RowsS) (r : Nat) (R : RowS) (G : GlbS) (xs : va_W) (hr : r < 13) (a1 : Int32) (res : Int32) (h0 : f_X3_countInState n R a1 = some res) (sz : Nat) : Met l yX3_countInState (ws_ yX3_countInState cX3_countInState 4 (some .int)) rm_X3_countInState (PCw D ca (wC ar ag ca (va_up P r R) G ++ xs) sz [.ref (ar r 0), .int a1]) (QMw D (wC ar ag ca (va_up P r R) G ++ xs) (wC ar ag ca (va_up P r R) G ++ xs) sz (some (.int res))) 0 0 (AL (wC ar ag ca (va_up P r R) G ++ xs) sz) := by
  refine met_of (by decide) (Nat.le_of_ble_eq_true rfl) (fun p e s m args below meth c K hr0 X hsz ls hl => ?_)
  have K : MC D ca p s m args meth c cX3_countInState 4 RX3 := K
  have hx := K.1
  have hb := K.2.1
  have hl : lv_has ls 4 [(0, .ref (ar r 0)), (1, .int a1)] := hl
  generalize hQ : MQ below _ args s 0 0 _ = Q
  unfold f_X3_countInState at h0
  suffices Z : ∀ (H : Heap) (locs : List Loc) (X : RW D (wC ar ag ca (va_up P r R) G ++ xs) s.heap H locs), W p l e rm_X3_countInState s m args below meth c H locs 0 0 Q (F0 m 0 ls []) from Z _ _ X
  intro H locs X
  have J38 : ∀ (y38_l2 : Int32) (H : Heap) (locs : List Loc) (X : RW D (wC ar ag ca (va_up P r R) G ++ xs) s.heap H locs) (ls : Array Slot) (hl : lv_has ls 4 [(2, .int y38_l2)]) (h0 : b_X3_countInState_38 y38_l2 = some res), W p l e rm_X3_countInState s m args below meth c H locs 0 0 Q (F0 m 38 ls []) := by
    intro y38_l2 H locs X ls hl h0
    unfold b_X3_countInState_38 at h0
    refine lv_iload_n hx hb dX3_countInState_38 rfl (lv_at hl 0 rfl) ?_
    have h0 := Option.some.inj h0
    subst h0
    subst hQ
    exact w_iret K hr0 X wC_fstx hsz dX3_countInState_39
  refine lv_iconst (v := 0) hx hb dX3_countInState_0 (by decide) ?_
  refine lv_istore_n (lv' := [(2, .int 0), (0, .ref (ar r 0)), (1, .int a1)]) hx hb dX3_countInState_1 rfl hl (by decide) rfl (fun ls hl => ?_)
  refine lv_iconst (v := 0) hx hb dX3_countInState_2 (by decide) ?_
  refine lv_istore_n (lv' := [(3, .int 0), (2, .int 0), (0, .ref (ar r 0)), (1, .int a1)]) hx hb dX3_countInState_3 rfl hl (by decide) rfl (fun ls hl => ?_)
  obtain ⟨e_1, he1, h0⟩ := ob_out h0
  have K4 : ∀ (k : Nat) (z4_2 : Int32) (z4_3 : Int32) (H : Heap) (locs : List Loc) (X : RW D (wC ar ag ca (va_up P r R) G ++ xs) s.heap H locs) (ls : Array Slot) (hl : lv_has ls 4 [(0, .ref (ar r 0)), (1, .int a1), (2, .int z4_2), (3, .int z4_3)]) (hw : wloop (fun t => l_X3_countInState_4 R a1 t.1 t.2) k (z4_2, z4_3) = some e_1), W p l e rm_X3_countInState s m args below meth c H locs 0 0 Q (F0 m 4 ls []) := by
    intro k
    induction k with
    | zero => intro z4_2 z4_3 H locs X ls hl hw; exact (wloop_0 hw).elim
    | succ k ih1 =>
      intro z4_2 z4_3 H locs X ls hl hw
      obtain ⟨x_1, h1, hx1⟩ := wloop_out hw
      have h1 : l_X3_countInState_4 R a1 z4_2 z4_3 = some x_1 := h1
      unfold l_X3_countInState_4 at h1
      have J30 : ∀ (y30_l3 : Int32) (y30_s0 : Int32) (y30_s1 : Int32) (H : Heap) (locs : List Loc) (X : RW D (wC ar ag ca (va_up P r R) G ++ xs) s.heap H locs) (ls : Array Slot) (hl : lv_has ls 4 [(0, .ref (ar r 0)), (1, .int a1), (3, .int y30_l3)]) (h1 : b_X3_countInState_30 y30_l3 y30_s0 y30_s1 = some x_1), W p l e rm_X3_countInState s m args below meth c H locs 0 0 Q (F0 m 30 ls [.int y30_s1, .int y30_s0]) := by
        intro y30_l3 y30_s0 y30_s1 H locs X ls hl h1
        unfold b_X3_countInState_30 at h1
        refine lv_iadd hx hb dX3_countInState_30 ?_
        obtain ⟨x5, ex5, h1⟩ := lt_out h1
        refine w_int ex5 ?_
        refine lv_istore_n (lv' := [(2, .int x5), (0, .ref (ar r 0)), (1, .int a1), (3, .int y30_l3)]) hx hb dX3_countInState_31 rfl hl (by decide) rfl (fun ls hl => ?_)
        obtain ⟨x6, ex6, h1⟩ := lt_out h1
        refine lv_iinc (v := x6) (lv' := [(3, .int x6), (2, .int x5), (0, .ref (ar r 0)), (1, .int a1)]) hx hb dX3_countInState_32 hl (k := 3) rfl (by rw [ex6]; rfl) (by decide) rfl (fun ls hl => ?_)
        refine lv_goto (tgt := 4) hx hb dX3_countInState_35 (by decide) ?_
        exact ih1 x5 x6 H locs X ls (lv_sub hl [2, 3, 1, 0] rfl) (wl_l h1 hx1)
      refine lv_iload_n hx hb dX3_countInState_4 rfl (lv_at hl 3 rfl) ?_
      refine lv_aload_n hx hb dX3_countInState_5 rfl (lv_at hl 0 rfl) ?_
      refine g_rowi K X hr (upR_1 _) 2 (by decide) q149 dX3_countInState_6 ?_
      refine lv_icmp_ge (tgt := 38) hx hb dX3_countInState_9 (by decide) (fun c1 => ?_) (fun c1 => ?_)
      · have h1 := if_t c1 h1
        have q1 := wl_r h1 hx1
        exact J38 z4_2 H locs X ls (lv_sub hl [2] rfl) (by rw [q1] at h0; exact h0)
      · have h1 := if_f c1 h1
        refine lv_iload_n hx hb dX3_countInState_12 rfl (lv_at hl 2 rfl) ?_
        refine lv_aload_n hx hb dX3_countInState_13 rfl (lv_at hl 0 rfl) ?_
        refine lv_iload_n hx hb dX3_countInState_14 rfl (lv_at hl 3 rfl) ?_
        obtain ⟨x2, ex2, h1⟩ := lt_out h1
        have kx2 := m_X3_tubeAt l D ca ar ag P r R G xs hr z4_3 x2 ex2.symm H.size
        refine w_callV0 K X wC_fstx kx2 hl.1 1 q574 q575 q576 q17 q577 hv_X3_tubeAt ⟨⟨Nat.le_of_ble_eq_true rfl, Nat.le_of_ble_eq_true rfl⟩, rfl, rfl⟩ (pl_rowo hr) rfl rfl rfl rfl (Nat.le_of_ble_eq_true rfl) dX3_countInState_15 ⟨Nat.le_of_ble_eq_true rfl, Nat.le_of_ble_eq_true rfl⟩ rfl (fun H locs X => ?_)
        obtain ⟨j3, ej3, h1⟩ := lt_out h1
        rw [← ej3]
        have hj3 : j3 < 13 := by rw [ej3]; exact lt_X3_tubeAt ex2
        refine g_tube K X hr hj3 (upR_1 _) 6 (by decide) q114 dX3_countInState_18 ?_
        refine lv_iload_n hx hb dX3_countInState_21 rfl (lv_at hl 1 rfl) ?_
        refine lv_icmp_ne (tgt := 29) hx hb dX3_countInState_22 (by decide) (fun c4 => ?_) (fun c4 => ?_)
        · have h1 := if_f c4 h1
          refine lv_iconst (v := 0) hx hb dX3_countInState_29 (by decide) ?_
          exact J30 z4_3 z4_2 0 H locs X ls (lv_sub hl [0, 1, 3] rfl) h1
        · have h1 := if_t c4 h1
          refine lv_iconst (v := 1) hx hb dX3_countInState_25 (by decide) ?_
          refine lv_goto (tgt := 30) hx hb dX3_countInState_26 (by decide) ?_
          exact J30 z4_3 z4_2 1 H locs X ls (lv_sub hl [0, 1, 3] rfl) h1
  exact K4 n 0 0 H locs X ls (lv_sub hl [2, 3, 1, 0] rfl) he1
theorem mC_X3_countInState (l : Launch) (D : va_G) (ca : Nat → ClassId) (ar : Nat → Nat → Nat) (ag : Nat → Nat) (n : Nat) (P : RowsS) (r : Nat) (G : GlbS) (xs : va_W) (hr : r < 13) (a1 : Int32) (res : Int32) (h0 : f_X3_countInState n (P r) a1 = some res) (sz : Nat) : Met l yX3_countInState (ws_ yX3_countInState cX3_countInState 4 (some .int)) rm_X3_countInState (PCw D ca (wC ar ag ca P G ++ xs) sz [.ref (ar r 0), .int a1]) (QMw D (wC ar ag ca P G ++ xs) (wC ar ag ca P G ++ xs) sz (some (.int res))) 0 0 (AL (wC ar ag ca P G ++ xs) sz) := by
  have k := m_X3_countInState l D ca ar ag n P r (P r) G xs hr a1 res h0 sz
  simpa only [up_self] using k
-- X3_countInLeg
def b_X3_countInLeg_38  (y38_l2 : Int32) : Option Int32 :=
  some y38_l2
def b_X3_countInLeg_30  (y30_l3 : Int32) (y30_s0 : Int32) (y30_s1 : Int32) : Option ((Int32 × Int32) ⊕ Int32) :=
  lt (y30_s0 + y30_s1) fun x5 =>
  lt (y30_l3 + 1) fun x6 =>
  some (.inl (x5, x6))
def l_X3_countInLeg_4 (R : RowS) (a1 : Int32) (z4_2 : Int32) (z4_3 : Int32) : Option ((Int32 × Int32) ⊕ Int32) :=
  if (R.1 0 2) ≤ z4_3 then
    some (.inr z4_2)
  else
    lt (f_X3_tubeAt R z4_3) fun x2 =>
    lt (x2) fun j3 =>
    if (R.1 (j3 + 5) 0) = a1 then
      b_X3_countInLeg_30 z4_3 z4_2 1
    else
      b_X3_countInLeg_30 z4_3 z4_2 0
def f_X3_countInLeg (n : Nat) (R : RowS) (a1 : Int32) : Option Int32 :=
  ob (wloop (fun t => l_X3_countInLeg_4 R a1 t.1 t.2) n (0, 0)) (fun t => b_X3_countInLeg_38 t)
abbrev rm_X3_countInLeg : Room := { frames := 1, cells := 0, slots := 0, locals := 21 }
set_option maxRecDepth 100000 in
set_option maxHeartbeats 4000000 in
theorem m_X3_countInLeg (l : Launch) (D : va_G) (ca : Nat → ClassId) (ar : Nat → Nat → Nat) (ag : Nat → Nat) (n : Nat) (P : RowsS) (r : Nat) (R : RowS) (G : GlbS) (xs : va_W) (hr : r < 13) (a1 : Int32) (res : Int32) (h0 : f_X3_countInLeg n R a1 = some res) (sz : Nat) : Met l yX3_countInLeg (ws_ yX3_countInLeg cX3_countInLeg 4 (some .int)) rm_X3_countInLeg (PCw D ca (wC ar ag ca (va_up P r R) G ++ xs) sz [.ref (ar r 0), .int a1]) (QMw D (wC ar ag ca (va_up P r R) G ++ xs) (wC ar ag ca (va_up P r R) G ++ xs) sz (some (.int res))) 0 0 (AL (wC ar ag ca (va_up P r R) G ++ xs) sz) := by
  refine met_of (by decide) (Nat.le_of_ble_eq_true rfl) (fun p e s m args below meth c K hr0 X hsz ls hl => ?_)
  have K : MC D ca p s m args meth c cX3_countInLeg 4 RX3 := K
  have hx := K.1
  have hb := K.2.1
  have hl : lv_has ls 4 [(0, .ref (ar r 0)), (1, .int a1)] := hl
  generalize hQ : MQ below _ args s 0 0 _ = Q
  unfold f_X3_countInLeg at h0
  suffices Z : ∀ (H : Heap) (locs : List Loc) (X : RW D (wC ar ag ca (va_up P r R) G ++ xs) s.heap H locs), W p l e rm_X3_countInLeg s m args below meth c H locs 0 0 Q (F0 m 0 ls []) from Z _ _ X
  intro H locs X
  have J38 : ∀ (y38_l2 : Int32) (H : Heap) (locs : List Loc) (X : RW D (wC ar ag ca (va_up P r R) G ++ xs) s.heap H locs) (ls : Array Slot) (hl : lv_has ls 4 [(2, .int y38_l2)]) (h0 : b_X3_countInLeg_38 y38_l2 = some res), W p l e rm_X3_countInLeg s m args below meth c H locs 0 0 Q (F0 m 38 ls []) := by
    intro y38_l2 H locs X ls hl h0
    unfold b_X3_countInLeg_38 at h0
    refine lv_iload_n hx hb dX3_countInLeg_38 rfl (lv_at hl 0 rfl) ?_
    have h0 := Option.some.inj h0
    subst h0
    subst hQ
    exact w_iret K hr0 X wC_fstx hsz dX3_countInLeg_39
  refine lv_iconst (v := 0) hx hb dX3_countInLeg_0 (by decide) ?_
  refine lv_istore_n (lv' := [(2, .int 0), (0, .ref (ar r 0)), (1, .int a1)]) hx hb dX3_countInLeg_1 rfl hl (by decide) rfl (fun ls hl => ?_)
  refine lv_iconst (v := 0) hx hb dX3_countInLeg_2 (by decide) ?_
  refine lv_istore_n (lv' := [(3, .int 0), (2, .int 0), (0, .ref (ar r 0)), (1, .int a1)]) hx hb dX3_countInLeg_3 rfl hl (by decide) rfl (fun ls hl => ?_)
  obtain ⟨e_1, he1, h0⟩ := ob_out h0
  have K4 : ∀ (k : Nat) (z4_2 : Int32) (z4_3 : Int32) (H : Heap) (locs : List Loc) (X : RW D (wC ar ag ca (va_up P r R) G ++ xs) s.heap H locs) (ls : Array Slot) (hl : lv_has ls 4 [(0, .ref (ar r 0)), (1, .int a1), (2, .int z4_2), (3, .int z4_3)]) (hw : wloop (fun t => l_X3_countInLeg_4 R a1 t.1 t.2) k (z4_2, z4_3) = some e_1), W p l e rm_X3_countInLeg s m args below meth c H locs 0 0 Q (F0 m 4 ls []) := by
    intro k
    induction k with
    | zero => intro z4_2 z4_3 H locs X ls hl hw; exact (wloop_0 hw).elim
    | succ k ih1 =>
      intro z4_2 z4_3 H locs X ls hl hw
      obtain ⟨x_1, h1, hx1⟩ := wloop_out hw
      have h1 : l_X3_countInLeg_4 R a1 z4_2 z4_3 = some x_1 := h1
      unfold l_X3_countInLeg_4 at h1
      have J30 : ∀ (y30_l3 : Int32) (y30_s0 : Int32) (y30_s1 : Int32) (H : Heap) (locs : List Loc) (X : RW D (wC ar ag ca (va_up P r R) G ++ xs) s.heap H locs) (ls : Array Slot) (hl : lv_has ls 4 [(0, .ref (ar r 0)), (1, .int a1), (3, .int y30_l3)]) (h1 : b_X3_countInLeg_30 y30_l3 y30_s0 y30_s1 = some x_1), W p l e rm_X3_countInLeg s m args below meth c H locs 0 0 Q (F0 m 30 ls [.int y30_s1, .int y30_s0]) := by
        intro y30_l3 y30_s0 y30_s1 H locs X ls hl h1
        unfold b_X3_countInLeg_30 at h1
        refine lv_iadd hx hb dX3_countInLeg_30 ?_
        obtain ⟨x5, ex5, h1⟩ := lt_out h1
        refine w_int ex5 ?_
        refine lv_istore_n (lv' := [(2, .int x5), (0, .ref (ar r 0)), (1, .int a1), (3, .int y30_l3)]) hx hb dX3_countInLeg_31 rfl hl (by decide) rfl (fun ls hl => ?_)
        obtain ⟨x6, ex6, h1⟩ := lt_out h1
        refine lv_iinc (v := x6) (lv' := [(3, .int x6), (2, .int x5), (0, .ref (ar r 0)), (1, .int a1)]) hx hb dX3_countInLeg_32 hl (k := 3) rfl (by rw [ex6]; rfl) (by decide) rfl (fun ls hl => ?_)
        refine lv_goto (tgt := 4) hx hb dX3_countInLeg_35 (by decide) ?_
        exact ih1 x5 x6 H locs X ls (lv_sub hl [2, 3, 1, 0] rfl) (wl_l h1 hx1)
      refine lv_iload_n hx hb dX3_countInLeg_4 rfl (lv_at hl 3 rfl) ?_
      refine lv_aload_n hx hb dX3_countInLeg_5 rfl (lv_at hl 0 rfl) ?_
      refine g_rowi K X hr (upR_1 _) 2 (by decide) q149 dX3_countInLeg_6 ?_
      refine lv_icmp_ge (tgt := 38) hx hb dX3_countInLeg_9 (by decide) (fun c1 => ?_) (fun c1 => ?_)
      · have h1 := if_t c1 h1
        have q1 := wl_r h1 hx1
        exact J38 z4_2 H locs X ls (lv_sub hl [2] rfl) (by rw [q1] at h0; exact h0)
      · have h1 := if_f c1 h1
        refine lv_iload_n hx hb dX3_countInLeg_12 rfl (lv_at hl 2 rfl) ?_
        refine lv_aload_n hx hb dX3_countInLeg_13 rfl (lv_at hl 0 rfl) ?_
        refine lv_iload_n hx hb dX3_countInLeg_14 rfl (lv_at hl 3 rfl) ?_
        obtain ⟨x2, ex2, h1⟩ := lt_out h1
        have kx2 := m_X3_tubeAt l D ca ar ag P r R G xs hr z4_3 x2 ex2.symm H.size
        refine w_callV0 K X wC_fstx kx2 hl.1 1 q574 q575 q576 q17 q577 hv_X3_tubeAt ⟨⟨Nat.le_of_ble_eq_true rfl, Nat.le_of_ble_eq_true rfl⟩, rfl, rfl⟩ (pl_rowo hr) rfl rfl rfl rfl (Nat.le_of_ble_eq_true rfl) dX3_countInLeg_15 ⟨Nat.le_of_ble_eq_true rfl, Nat.le_of_ble_eq_true rfl⟩ rfl (fun H locs X => ?_)
        obtain ⟨j3, ej3, h1⟩ := lt_out h1
        rw [← ej3]
        have hj3 : j3 < 13 := by rw [ej3]; exact lt_X3_tubeAt ex2
        refine g_tube K X hr hj3 (upR_1 _) 0 (by decide) q99 dX3_countInLeg_18 ?_
        refine lv_iload_n hx hb dX3_countInLeg_21 rfl (lv_at hl 1 rfl) ?_
        refine lv_icmp_ne (tgt := 29) hx hb dX3_countInLeg_22 (by decide) (fun c4 => ?_) (fun c4 => ?_)
        · have h1 := if_f c4 h1
          refine lv_iconst (v := 0) hx hb dX3_countInLeg_29 (by decide) ?_
          exact J30 z4_3 z4_2 0 H locs X ls (lv_sub hl [0, 1, 3] rfl) h1
        · have h1 := if_t c4 h1
          refine lv_iconst (v := 1) hx hb dX3_countInLeg_25 (by decide) ?_
          refine lv_goto (tgt := 30) hx hb dX3_countInLeg_26 (by decide) ?_
          exact J30 z4_3 z4_2 1 H locs X ls (lv_sub hl [0, 1, 3] rfl) h1
  exact K4 n 0 0 H locs X ls (lv_sub hl [2, 3, 1, 0] rfl) he1
theorem mC_X3_countInLeg (l : Launch) (D : va_G) (ca : Nat → ClassId) (ar : Nat → Nat → Nat) (ag : Nat → Nat) (n : Nat) (P : RowsS) (r : Nat) (G : GlbS) (xs : va_W) (hr : r < 13) (a1 : Int32) (res : Int32) (h0 : f_X3_countInLeg n (P r) a1 = some res) (sz : Nat) : Met l yX3_countInLeg (ws_ yX3_countInLeg cX3_countInLeg 4 (some .int)) rm_X3_countInLeg (PCw D ca (wC ar ag ca P G ++ xs) sz [.ref (ar r 0), .int a1]) (QMw D (wC ar ag ca P G ++ xs) (wC ar ag ca P G ++ xs) sz (some (.int res))) 0 0 (AL (wC ar ag ca P G ++ xs) sz) := by
  have k := m_X3_countInLeg l D ca ar ag n P r (P r) G xs hr a1 res h0 sz
  simpa only [up_self] using k
-- X3_numberOf
def f_X3_numberOf (R : RowS) (a1 : Int32) (a2 : Int32) : Int32 :=
  lt (f_X3_tubeAt R a1) fun x1 =>
  lt (x1) fun j2 =>
  if a2 = 0 then
    (R.1 (j2 + 5) 0)
  else if a2 = 1 then
    (R.1 (j2 + 5) 1)
  else if a2 = 2 then
    (R.1 (j2 + 5) 2)
  else if a2 = 3 then
    (R.1 (j2 + 5) 3)
  else if a2 = 4 then
    (R.1 (j2 + 5) 4)
  else if a2 = 5 then
    (R.1 (j2 + 5) 5)
  else if a2 = 6 then
    (R.1 (j2 + 5) 6)
  else if a2 = 7 then
    (R.1 (j2 + 5) 9)
  else if a2 = 8 then
    lt (f_X6_shownReading (R.1 (j2 + 5))) fun x12 =>
    x12
  else if a2 = 9 then
    (R.1 (j2 + 5) 7)
  else if a2 = 10 then
    (R.1 (j2 + 5) 8)
  else if a2 = 11 then
    a1
  else if a2 = 12 then
    lt (f_X3_pressureAt R (R.1 (j2 + 5) 1)) fun x17 =>
    x17
  else a1
abbrev rm_X3_numberOf : Room := { frames := 1, cells := 0, slots := 0, locals := 21 }
set_option maxRecDepth 100000 in
set_option maxHeartbeats 4000000 in
theorem m_X3_numberOf (l : Launch) (D : va_G) (ca : Nat → ClassId) (ar : Nat → Nat → Nat) (ag : Nat → Nat) (P : RowsS) (r : Nat) (R : RowS) (G : GlbS) (xs : va_W) (hr : r < 13) (a1 : Int32) (a2 : Int32) (res : Int32) (h0 : f_X3_numberOf R a1 a2 = res) (sz : Nat) : Met l yX3_numberOf (ws_ yX3_numberOf cX3_numberOf 4 (some .int)) rm_X3_numberOf (PCw D ca (wC ar ag ca (va_up P r R) G ++ xs) sz [.ref (ar r 0), .int a1, .int a2]) (QMw D (wC ar ag ca (va_up P r R) G ++ xs) (wC ar ag ca (va_up P r R) G ++ xs) sz (some (.int res))) 0 0 (AL (wC ar ag ca (va_up P r R) G ++ xs) sz) := by
  refine met_of (by decide) (Nat.le_of_ble_eq_true rfl) (fun p e s m args below meth c K hr0 X hsz ls hl => ?_)
  have K : MC D ca p s m args meth c cX3_numberOf 4 RX3 := K
  have hx := K.1
  have hb := K.2.1
  have hl : lv_has ls 4 [(0, .ref (ar r 0)), (1, .int a1), (2, .int a2)] := hl
  generalize hQ : MQ below _ args s 0 0 _ = Q
  unfold f_X3_numberOf at h0
  suffices Z : ∀ (H : Heap) (locs : List Loc) (X : RW D (wC ar ag ca (va_up P r R) G ++ xs) s.heap H locs), W p l e rm_X3_numberOf s m args below meth c H locs 0 0 Q (F0 m 0 ls []) from Z _ _ X
  intro H locs X
  refine lv_aload_n hx hb dX3_numberOf_0 rfl (lv_at hl 0 rfl) ?_
  refine lv_iload_n hx hb dX3_numberOf_1 rfl (lv_at hl 1 rfl) ?_
  obtain ⟨x1, ex1, h0⟩ := lt_out h0
  have kx1 := m_X3_tubeAt l D ca ar ag P r R G xs hr a1 x1 ex1.symm H.size
  refine w_callV0 K X wC_fstx kx1 hl.1 1 q574 q575 q576 q17 q577 hv_X3_tubeAt ⟨⟨Nat.le_of_ble_eq_true rfl, Nat.le_of_ble_eq_true rfl⟩, rfl, rfl⟩ (pl_rowo hr) rfl rfl rfl rfl (Nat.le_of_ble_eq_true rfl) dX3_numberOf_2 ⟨Nat.le_of_ble_eq_true rfl, Nat.le_of_ble_eq_true rfl⟩ rfl (fun H locs X => ?_)
  obtain ⟨j2, ej2, h0⟩ := lt_out h0
  rw [← ej2]
  have hj2 : j2 < 13 := by rw [ej2]; exact lt_X3_tubeAt ex1
  refine lv_astore_n (lv' := [(3, .ref (ar r (j2 + 5))), (0, .ref (ar r 0)), (1, .int a1), (2, .int a2)]) hx hb dX3_numberOf_5 rfl hl (by decide) rfl (fun ls hl => ?_)
  refine lv_iload_n hx hb dX3_numberOf_6 rfl (lv_at hl 3 rfl) ?_
  by_cases c3 : a2 = 0
  · have h0 := if_t c3 h0
    refine lv_tableIn (off := 65) (tgt := 72) hx hb dX3_numberOf_7 (by rw [c3]; decide) (by rw [c3]; decide) (by rw [c3]; decide) (by decide) ?_
    refine lv_aload_n hx hb dX3_numberOf_72 rfl (lv_at hl 0 rfl) ?_
    refine g_tube K X hr hj2 (upR_1 _) 0 (by decide) q99 dX3_numberOf_73 ?_
    subst h0
    subst hQ
    exact w_iret K hr0 X wC_fstx hsz dX3_numberOf_76
  have h0 := if_f c3 h0
  by_cases c4 : a2 = 1
  · have h0 := if_t c4 h0
    refine lv_tableIn (off := 70) (tgt := 77) hx hb dX3_numberOf_7 (by rw [c4]; decide) (by rw [c4]; decide) (by rw [c4]; decide) (by decide) ?_
    refine lv_aload_n hx hb dX3_numberOf_77 rfl (lv_at hl 0 rfl) ?_
    refine g_tube K X hr hj2 (upR_1 _) 1 (by decide) q101 dX3_numberOf_78 ?_
    subst h0
    subst hQ
    exact w_iret K hr0 X wC_fstx hsz dX3_numberOf_81
  have h0 := if_f c4 h0
  by_cases c5 : a2 = 2
  · have h0 := if_t c5 h0
    refine lv_tableIn (off := 75) (tgt := 82) hx hb dX3_numberOf_7 (by rw [c5]; decide) (by rw [c5]; decide) (by rw [c5]; decide) (by decide) ?_
    refine lv_aload_n hx hb dX3_numberOf_82 rfl (lv_at hl 0 rfl) ?_
    refine g_tube K X hr hj2 (upR_1 _) 2 (by decide) q103 dX3_numberOf_83 ?_
    subst h0
    subst hQ
    exact w_iret K hr0 X wC_fstx hsz dX3_numberOf_86
  have h0 := if_f c5 h0
  by_cases c6 : a2 = 3
  · have h0 := if_t c6 h0
    refine lv_tableIn (off := 80) (tgt := 87) hx hb dX3_numberOf_7 (by rw [c6]; decide) (by rw [c6]; decide) (by rw [c6]; decide) (by decide) ?_
    refine lv_aload_n hx hb dX3_numberOf_87 rfl (lv_at hl 0 rfl) ?_
    refine g_tube K X hr hj2 (upR_1 _) 3 (by decide) q105 dX3_numberOf_88 ?_
    subst h0
    subst hQ
    exact w_iret K hr0 X wC_fstx hsz dX3_numberOf_91
  have h0 := if_f c6 h0
  by_cases c7 : a2 = 4
  · have h0 := if_t c7 h0
    refine lv_tableIn (off := 85) (tgt := 92) hx hb dX3_numberOf_7 (by rw [c7]; decide) (by rw [c7]; decide) (by rw [c7]; decide) (by decide) ?_
    refine lv_aload_n hx hb dX3_numberOf_92 rfl (lv_at hl 0 rfl) ?_
    refine g_tube K X hr hj2 (upR_1 _) 4 (by decide) q108 dX3_numberOf_93 ?_
    subst h0
    subst hQ
    exact w_iret K hr0 X wC_fstx hsz dX3_numberOf_96
  have h0 := if_f c7 h0
  by_cases c8 : a2 = 5
  · have h0 := if_t c8 h0
    refine lv_tableIn (off := 90) (tgt := 97) hx hb dX3_numberOf_7 (by rw [c8]; decide) (by rw [c8]; decide) (by rw [c8]; decide) (by decide) ?_
    refine lv_aload_n hx hb dX3_numberOf_97 rfl (lv_at hl 0 rfl) ?_
    refine g_tube K X hr hj2 (upR_1 _) 5 (by decide) q111 dX3_numberOf_98 ?_
    subst h0
    subst hQ
    exact w_iret K hr0 X wC_fstx hsz dX3_numberOf_101
  have h0 := if_f c8 h0
  by_cases c9 : a2 = 6
  · have h0 := if_t c9 h0
    refine lv_tableIn (off := 95) (tgt := 102) hx hb dX3_numberOf_7 (by rw [c9]; decide) (by rw [c9]; decide) (by rw [c9]; decide) (by decide) ?_
    refine lv_aload_n hx hb dX3_numberOf_102 rfl (lv_at hl 0 rfl) ?_
    refine g_tube K X hr hj2 (upR_1 _) 6 (by decide) q114 dX3_numberOf_103 ?_
    subst h0
    subst hQ
    exact w_iret K hr0 X wC_fstx hsz dX3_numberOf_106
  have h0 := if_f c9 h0
  by_cases c10 : a2 = 7
  · have h0 := if_t c10 h0
    refine lv_tableIn (off := 100) (tgt := 107) hx hb dX3_numberOf_7 (by rw [c10]; decide) (by rw [c10]; decide) (by rw [c10]; decide) (by decide) ?_
    refine lv_aload_n hx hb dX3_numberOf_107 rfl (lv_at hl 0 rfl) ?_
    refine g_tube K X hr hj2 (upR_1 _) 9 (by decide) q121 dX3_numberOf_108 ?_
    subst h0
    subst hQ
    exact w_iret K hr0 X wC_fstx hsz dX3_numberOf_111
  have h0 := if_f c10 h0
  by_cases c11 : a2 = 8
  · have h0 := if_t c11 h0
    refine lv_tableIn (off := 105) (tgt := 112) hx hb dX3_numberOf_7 (by rw [c11]; decide) (by rw [c11]; decide) (by rw [c11]; decide) (by decide) ?_
    refine lv_aload_n hx hb dX3_numberOf_112 rfl (lv_at hl 0 rfl) ?_
    obtain ⟨x12, ex12, h0⟩ := lt_out h0
    have kx12 := mR_X6_shownReading l D ca ar ag P r j2 R G xs hr hj2 x12 ex12.symm H.size
    refine w_callV0 K X wC_fstx kx12 hl.1 0 q724 q725 q726 q19 q727 hv_X6_shownReading ⟨⟨Nat.le_of_ble_eq_true rfl, Nat.le_of_ble_eq_true rfl⟩, rfl, rfl⟩ (pl_tube hr hj2) rfl rfl rfl rfl (Nat.le_of_ble_eq_true rfl) dX3_numberOf_113 ⟨Nat.le_of_ble_eq_true rfl, Nat.le_of_ble_eq_true rfl⟩ rfl (fun H locs X => ?_)
    subst h0
    subst hQ
    exact w_iret K hr0 X wC_fstx hsz dX3_numberOf_116
  have h0 := if_f c11 h0
  by_cases c13 : a2 = 9
  · have h0 := if_t c13 h0
    refine lv_tableIn (off := 110) (tgt := 117) hx hb dX3_numberOf_7 (by rw [c13]; decide) (by rw [c13]; decide) (by rw [c13]; decide) (by decide) ?_
    refine lv_aload_n hx hb dX3_numberOf_117 rfl (lv_at hl 0 rfl) ?_
    refine g_tube K X hr hj2 (upR_1 _) 7 (by decide) q117 dX3_numberOf_118 ?_
    subst h0
    subst hQ
    exact w_iret K hr0 X wC_fstx hsz dX3_numberOf_121
  have h0 := if_f c13 h0
  by_cases c14 : a2 = 10
  · have h0 := if_t c14 h0
    refine lv_tableIn (off := 115) (tgt := 122) hx hb dX3_numberOf_7 (by rw [c14]; decide) (by rw [c14]; decide) (by rw [c14]; decide) (by decide) ?_
    refine lv_aload_n hx hb dX3_numberOf_122 rfl (lv_at hl 0 rfl) ?_
    refine g_tube K X hr hj2 (upR_1 _) 8 (by decide) q119 dX3_numberOf_123 ?_
    subst h0
    subst hQ
    exact w_iret K hr0 X wC_fstx hsz dX3_numberOf_126
  have h0 := if_f c14 h0
  by_cases c15 : a2 = 11
  · have h0 := if_t c15 h0
    refine lv_tableIn (off := 129) (tgt := 136) hx hb dX3_numberOf_7 (by rw [c15]; decide) (by rw [c15]; decide) (by rw [c15]; decide) (by decide) ?_
    refine lv_iload_n hx hb dX3_numberOf_136 rfl (lv_at hl 2 rfl) ?_
    subst h0
    subst hQ
    exact w_iret K hr0 X wC_fstx hsz dX3_numberOf_137
  have h0 := if_f c15 h0
  by_cases c16 : a2 = 12
  · have h0 := if_t c16 h0
    refine lv_tableIn (off := 120) (tgt := 127) hx hb dX3_numberOf_7 (by rw [c16]; decide) (by rw [c16]; decide) (by rw [c16]; decide) (by decide) ?_
    refine lv_aload_n hx hb dX3_numberOf_127 rfl (lv_at hl 1 rfl) ?_
    refine lv_aload_n hx hb dX3_numberOf_128 rfl (lv_at hl 0 rfl) ?_
    refine g_tube K X hr hj2 (upR_1 _) 1 (by decide) q101 dX3_numberOf_129 ?_
    obtain ⟨x17, ex17, h0⟩ := lt_out h0
    have kx17 := m_X3_pressureAt l D ca ar ag P r R G xs hr (R.1 (j2 + 5) 1) x17 ex17.symm H.size
    refine w_callV0 K X wC_fstx kx17 hl.1 1 q600 q601 q602 q17 q603 hv_X3_pressureAt ⟨⟨Nat.le_of_ble_eq_true rfl, Nat.le_of_ble_eq_true rfl⟩, rfl, rfl⟩ (pl_rowo hr) rfl rfl rfl rfl (Nat.le_of_ble_eq_true rfl) dX3_numberOf_132 ⟨Nat.le_of_ble_eq_true rfl, Nat.le_of_ble_eq_true rfl⟩ rfl (fun H locs X => ?_)
    subst h0
    subst hQ
    exact w_iret K hr0 X wC_fstx hsz dX3_numberOf_135
  have h0 := if_f c16 h0
  refine lv_tableOut (tgt := 136) hx hb dX3_numberOf_7 (by have gc3 := lv_neT (a := 0) c3 (by decide); have gc4 := lv_neT (a := 1) c4 (by decide); have gc5 := lv_neT (a := 2) c5 (by decide); have gc6 := lv_neT (a := 3) c6 (by decide); have gc7 := lv_neT (a := 4) c7 (by decide); have gc8 := lv_neT (a := 5) c8 (by decide); have gc9 := lv_neT (a := 6) c9 (by decide); have gc10 := lv_neT (a := 7) c10 (by decide); have gc11 := lv_neT (a := 8) c11 (by decide); have gc13 := lv_neT (a := 9) c13 (by decide); have gc14 := lv_neT (a := 10) c14 (by decide); have gc15 := lv_neT (a := 11) c15 (by decide); have gc16 := lv_neT (a := 12) c16 (by decide); omega) (by decide) ?_
  refine lv_iload_n hx hb dX3_numberOf_136 rfl (lv_at hl 2 rfl) ?_
  subst h0
  subst hQ
  exact w_iret K hr0 X wC_fstx hsz dX3_numberOf_137
theorem mC_X3_numberOf (l : Launch) (D : va_G) (ca : Nat → ClassId) (ar : Nat → Nat → Nat) (ag : Nat → Nat) (P : RowsS) (r : Nat) (G : GlbS) (xs : va_W) (hr : r < 13) (a1 : Int32) (a2 : Int32) (res : Int32) (h0 : f_X3_numberOf (P r) a1 a2 = res) (sz : Nat) : Met l yX3_numberOf (ws_ yX3_numberOf cX3_numberOf 4 (some .int)) rm_X3_numberOf (PCw D ca (wC ar ag ca P G ++ xs) sz [.ref (ar r 0), .int a1, .int a2]) (QMw D (wC ar ag ca P G ++ xs) (wC ar ag ca P G ++ xs) sz (some (.int res))) 0 0 (AL (wC ar ag ca P G ++ xs) sz) := by
  have k := m_X3_numberOf l D ca ar ag P r (P r) G xs hr a1 a2 res h0 sz
  simpa only [up_self] using k
-- X3_breakTubes
def b_X3_breakTubes_130  (y130_l3 : Int32) (R_130 : RowS) : Option (Int32 × RowS) :=
  some (y130_l3, R_130)
def b_X3_breakTubes_124  (y124_l3 : Int32) (y124_l4 : Int32) (R_124 : RowS) : Option ((Int32 × Int32 × RowS) ⊕ (Int32 × RowS)) :=
  lt (y124_l4 + 1) fun x7 =>
  some (.inl (y124_l3, x7, R_124))
def l_X3_breakTubes_11 (a1 : Int32) (j2 : Nat) (z11_3 : Int32) (z11_4 : Int32) (Rz_11 : RowS) : Option ((Int32 × Int32 × RowS) ⊕ (Int32 × RowS)) :=
  if (Rz_11.1 0 2) ≤ z11_4 then
    some (.inr (z11_3, Rz_11))
  else
    lt (f_X3_tubeAt Rz_11 z11_4) fun x4 =>
    lt (x4) fun j5 =>
    if (Rz_11.1 (j5 + 5) 0) = a1 then
      if (Rz_11.1 (j5 + 5) 6) = 0 then
        lt (f_X6_runAt (Rz_11.1 (j5 + 5)) (Rz_11.2 (j2 + 2) 6)) fun x9 =>
        if 0 ≤ x9 then
          lt (f_X6_fullColumn (Rz_11.1 (j5 + 5))) fun x11 =>
          if x9 ≤ x11.toInt64 then
            b_X3_breakTubes_124 z11_3 z11_4 Rz_11
          else
            lt (si Rz_11 (j5 + 5) 6 2) fun Rv13 =>
            lt (z11_3 + 1) fun x14 =>
            lt (f_X6_fullVolume (Rv13.1 (j5 + 5))) fun x15 =>
            lt (sl Rv13 (j2 + 2) 3 ((Rv13.2 (j2 + 2) 3) - x15)) fun Rv16 =>
            lt (f_X6_fullVolume (Rv16.1 (j5 + 5))) fun x17 =>
            lt (sl Rv16 (j2 + 2) 4 ((Rv16.2 (j2 + 2) 4) + x17)) fun Rv18 =>
            b_X3_breakTubes_124 x14 z11_4 Rv18
        else
          lt (si Rz_11 (j5 + 5) 6 1) fun Rv19 =>
          lt (z11_3 + 1) fun x20 =>
          b_X3_breakTubes_124 x20 z11_4 Rv19
      else
        b_X3_breakTubes_124 z11_3 z11_4 Rz_11
    else
      b_X3_breakTubes_124 z11_3 z11_4 Rz_11
def f_X3_breakTubes (n : Nat) (R : RowS) (a1 : Int32) : Option (Int32 × RowS) :=
  lt (f_X3_legAt R a1) fun x1 =>
  lt (x1) fun j2 =>
  ob (wloop (fun t => l_X3_breakTubes_11 a1 j2 t.1 t.2.1 t.2.2) n (0, 0, R)) (fun t => b_X3_breakTubes_130 t.1 t.2)
abbrev rm_X3_breakTubes : Room := { frames := 2, cells := 0, slots := 0, locals := 40 }
set_option maxRecDepth 100000 in
set_option maxHeartbeats 4000000 in
theorem m_X3_breakTubes (l : Launch) (D : va_G) (ca : Nat → ClassId) (ar : Nat → Nat → Nat) (ag : Nat → Nat) (n : Nat) (P : RowsS) (r : Nat) (R : RowS) (G : GlbS) (xs : va_W) (hr : r < 13) (a1 : Int32) (res : Int32) (R' : RowS) (h0 : f_X3_breakTubes n R a1 = some (res, R')) (sz : Nat) : Met l yX3_breakTubes (ws_ yX3_breakTubes cX3_breakTubes 8 (some .int)) rm_X3_breakTubes (PCw D ca (wC ar ag ca (va_up P r R) G ++ xs) sz [.ref (ar r 0), .int a1]) (QMw D (wC ar ag ca (va_up P r R) G ++ xs) (wC ar ag ca (va_up P r (R')) G ++ xs) sz (some (.int res))) 0 0 (AL (wC ar ag ca (va_up P r R) G ++ xs) sz) := by
  refine met_of (by decide) (Nat.le_of_ble_eq_true rfl) (fun p e s m args below meth c K hr0 X hsz ls hl => ?_)
  have K : MC D ca p s m args meth c cX3_breakTubes 8 RX3 := K
  have hx := K.1
  have hb := K.2.1
  have hl : lv_has ls 8 [(0, .ref (ar r 0)), (1, .int a1)] := hl
  generalize hQ : MQ below _ args s 0 0 _ = Q
  unfold f_X3_breakTubes at h0
  suffices Z : ∀ (H : Heap) (locs : List Loc) (X : RW D (wC ar ag ca (va_up P r R) G ++ xs) s.heap H locs), W p l e rm_X3_breakTubes s m args below meth c H locs 0 0 Q (F0 m 0 ls []) from Z _ _ X
  intro H locs X
  have J130 : ∀ (y130_l3 : Int32) (R_130 : RowS) (H : Heap) (locs : List Loc) (X : RW D (wC ar ag ca (va_up P r R_130) G ++ xs) s.heap H locs) (ls : Array Slot) (hl : lv_has ls 8 [(3, .int y130_l3)]) (h0 : b_X3_breakTubes_130 y130_l3 R_130 = some (res, R')), W p l e rm_X3_breakTubes s m args below meth c H locs 0 0 Q (F0 m 130 ls []) := by
    intro y130_l3 R_130 H locs X ls hl h0
    unfold b_X3_breakTubes_130 at h0
    refine lv_iload_n hx hb dX3_breakTubes_130 rfl (lv_at hl 0 rfl) ?_
    have h0 := Option.some.inj h0
    obtain ⟨q_0, q_1⟩ := Prod.mk.inj h0
    subst q_0
    subst q_1
    subst hQ
    exact w_iret K hr0 X wC_fstx hsz dX3_breakTubes_131
  refine lv_aload_n hx hb dX3_breakTubes_0 rfl (lv_at hl 0 rfl) ?_
  refine lv_iload_n hx hb dX3_breakTubes_1 rfl (lv_at hl 1 rfl) ?_
  obtain ⟨x1, ex1, h0⟩ := lt_out h0
  have kx1 := m_X3_legAt l D ca ar ag P r R G xs hr a1 x1 ex1.symm H.size
  refine w_callV0 K X wC_fstx kx1 hl.1 1 q618 q555 q556 q17 q557 hv_X3_legAt ⟨⟨Nat.le_of_ble_eq_true rfl, Nat.le_of_ble_eq_true rfl⟩, rfl, rfl⟩ (pl_rowo hr) rfl rfl rfl rfl (Nat.le_of_ble_eq_true rfl) dX3_breakTubes_2 ⟨Nat.le_of_ble_eq_true rfl, Nat.le_of_ble_eq_true rfl⟩ rfl (fun H locs X => ?_)
  obtain ⟨j2, ej2, h0⟩ := lt_out h0
  rw [← ej2]
  have hj2 : j2 < 2 := by rw [ej2]; exact lt_X3_legAt ex1
  refine lv_astore_n (lv' := [(2, .ref (ar r (j2 + 2))), (0, .ref (ar r 0)), (1, .int a1)]) hx hb dX3_breakTubes_5 rfl hl (by decide) rfl (fun ls hl => ?_)
  refine lv_iconst (v := 0) hx hb dX3_breakTubes_6 (by decide) ?_
  refine lv_istore_n (lv' := [(3, .int 0), (2, .ref (ar r (j2 + 2))), (0, .ref (ar r 0)), (1, .int a1)]) hx hb dX3_breakTubes_7 rfl hl (by decide) rfl (fun ls hl => ?_)
  refine lv_iconst (v := 0) hx hb dX3_breakTubes_8 (by decide) ?_
  refine lv_istore (lv' := [(4, .int 0), (3, .int 0), (2, .ref (ar r (j2 + 2))), (0, .ref (ar r 0)), (1, .int a1)]) hx hb dX3_breakTubes_9 hl (by decide) rfl (fun ls hl => ?_)
  obtain ⟨e_1, he1, h0⟩ := ob_out h0
  have K11 : ∀ (k : Nat) (z11_3 : Int32) (z11_4 : Int32) (Rz_11 : RowS) (H : Heap) (locs : List Loc) (X : RW D (wC ar ag ca (va_up P r Rz_11) G ++ xs) s.heap H locs) (ls : Array Slot) (hl : lv_has ls 8 [(0, .ref (ar r 0)), (1, .int a1), (2, .ref (ar r (j2 + 2))), (3, .int z11_3), (4, .int z11_4)]) (hw : wloop (fun t => l_X3_breakTubes_11 a1 j2 t.1 t.2.1 t.2.2) k (z11_3, z11_4, Rz_11) = some e_1), W p l e rm_X3_breakTubes s m args below meth c H locs 0 0 Q (F0 m 11 ls []) := by
    intro k
    induction k with
    | zero => intro z11_3 z11_4 Rz_11 H locs X ls hl hw; exact (wloop_0 hw).elim
    | succ k ih1 =>
      intro z11_3 z11_4 Rz_11 H locs X ls hl hw
      obtain ⟨x_1, h1, hx1⟩ := wloop_out hw
      have h1 : l_X3_breakTubes_11 a1 j2 z11_3 z11_4 Rz_11 = some x_1 := h1
      unfold l_X3_breakTubes_11 at h1
      have J124 : ∀ (y124_l3 : Int32) (y124_l4 : Int32) (R_124 : RowS) (H : Heap) (locs : List Loc) (X : RW D (wC ar ag ca (va_up P r R_124) G ++ xs) s.heap H locs) (ls : Array Slot) (hl : lv_has ls 8 [(0, .ref (ar r 0)), (1, .int a1), (2, .ref (ar r (j2 + 2))), (3, .int y124_l3), (4, .int y124_l4)]) (h1 : b_X3_breakTubes_124 y124_l3 y124_l4 R_124 = some x_1), W p l e rm_X3_breakTubes s m args below meth c H locs 0 0 Q (F0 m 124 ls []) := by
        intro y124_l3 y124_l4 R_124 H locs X ls hl h1
        unfold b_X3_breakTubes_124 at h1
        obtain ⟨x7, ex7, h1⟩ := lt_out h1
        refine lv_iinc (v := x7) (lv' := [(4, .int x7), (0, .ref (ar r 0)), (1, .int a1), (2, .ref (ar r (j2 + 2))), (3, .int y124_l3)]) hx hb dX3_breakTubes_124 hl (k := 4) rfl (by rw [ex7]; rfl) (by decide) rfl (fun ls hl => ?_)
        refine lv_goto (tgt := 11) hx hb dX3_breakTubes_127 (by decide) ?_
        exact ih1 y124_l3 x7 R_124 H locs X ls (lv_sub hl [1, 2, 3, 4, 0] rfl) (wl_l h1 hx1)
      refine lv_iload hx hb dX3_breakTubes_11 (lv_at hl 4 rfl) ?_
      refine lv_aload_n hx hb dX3_breakTubes_13 rfl (lv_at hl 0 rfl) ?_
      refine g_rowi K X hr (upR_1 _) 2 (by decide) q149 dX3_breakTubes_14 ?_
      refine lv_icmp_ge (tgt := 130) hx hb dX3_breakTubes_17 (by decide) (fun c3 => ?_) (fun c3 => ?_)
      · have h1 := if_t c3 h1
        have q1 := wl_r h1 hx1
        exact J130 z11_3 Rz_11 H locs X ls (lv_sub hl [3] rfl) (by rw [q1] at h0; exact h0)
      · have h1 := if_f c3 h1
        refine lv_aload_n hx hb dX3_breakTubes_20 rfl (lv_at hl 0 rfl) ?_
        refine lv_iload hx hb dX3_breakTubes_21 (lv_at hl 4 rfl) ?_
        obtain ⟨x4, ex4, h1⟩ := lt_out h1
        have kx4 := m_X3_tubeAt l D ca ar ag P r Rz_11 G xs hr z11_4 x4 ex4.symm H.size
        refine w_callV0 K X wC_fstx kx4 hl.1 1 q574 q575 q576 q17 q577 hv_X3_tubeAt ⟨⟨Nat.le_of_ble_eq_true rfl, Nat.le_of_ble_eq_true rfl⟩, rfl, rfl⟩ (pl_rowo hr) rfl rfl rfl rfl (Nat.le_of_ble_eq_true rfl) dX3_breakTubes_23 ⟨Nat.le_of_ble_eq_true rfl, Nat.le_of_ble_eq_true rfl⟩ rfl (fun H locs X => ?_)
        obtain ⟨j5, ej5, h1⟩ := lt_out h1
        rw [← ej5]
        have hj5 : j5 < 13 := by rw [ej5]; exact lt_X3_tubeAt ex4
        refine lv_astore (lv' := [(5, .ref (ar r (j5 + 5))), (0, .ref (ar r 0)), (1, .int a1), (2, .ref (ar r (j2 + 2))), (3, .int z11_3), (4, .int z11_4)]) hx hb dX3_breakTubes_26 hl (by decide) rfl (fun ls hl => ?_)
        refine lv_aload hx hb dX3_breakTubes_28 (lv_at hl 0 rfl) ?_
        refine g_tube K X hr hj5 (upR_1 _) 0 (by decide) q99 dX3_breakTubes_30 ?_
        refine lv_iload_n hx hb dX3_breakTubes_33 rfl (lv_at hl 2 rfl) ?_
        refine lv_icmp_ne (tgt := 124) hx hb dX3_breakTubes_34 (by decide) (fun c6 => ?_) (fun c6 => ?_)
        · have h1 := if_f c6 h1
          exact J124 z11_3 z11_4 Rz_11 H locs X ls (lv_sub hl [1, 2, 3, 4, 5] rfl) h1
        · have h1 := if_t c6 h1
          refine lv_aload hx hb dX3_breakTubes_37 (lv_at hl 0 rfl) ?_
          refine g_tube K X hr hj5 (upR_1 _) 6 (by decide) q114 dX3_breakTubes_39 ?_
          refine lv_if_ne (tgt := 124) hx hb dX3_breakTubes_42 (by decide) (fun c8 => ?_) (fun c8 => ?_)
          · have h1 := if_f c8 h1
            exact J124 z11_3 z11_4 Rz_11 H locs X ls (lv_sub hl [1, 2, 3, 4, 5] rfl) h1
          · have h1 := if_t c8 h1
            refine lv_aload hx hb dX3_breakTubes_45 (lv_at hl 0 rfl) ?_
            refine lv_aload_n hx hb dX3_breakTubes_47 rfl (lv_at hl 3 rfl) ?_
            refine g_legl K X hr hj2 (upR_2 _) 6 (by decide) q74 dX3_breakTubes_48 ?_
            obtain ⟨x9, ex9, h1⟩ := lt_out h1
            have kx9 := mR_X6_runAt l D ca ar ag P r j5 Rz_11 G xs hr hj5 (Rz_11.2 (j2 + 2) 6) x9 ex9.symm H.size
            refine w_callV0 K X wC_fstx kx9 hl.1 1 q666 q652 q653 q19 q654 hv_X6_runAt ⟨⟨Nat.le_of_ble_eq_true rfl, Nat.le_of_ble_eq_true rfl⟩, rfl, rfl⟩ (pl_tube hr hj5) rfl rfl rfl rfl (Nat.le_of_ble_eq_true rfl) dX3_breakTubes_51 ⟨Nat.le_of_ble_eq_true rfl, Nat.le_of_ble_eq_true rfl⟩ rfl (fun H locs X => ?_)
            refine lv_lstore (lv' := [(6, .long x9), (5, .ref (ar r (j5 + 5))), (0, .ref (ar r 0)), (1, .int a1), (2, .ref (ar r (j2 + 2))), (3, .int z11_3), (4, .int z11_4)]) hx hb dX3_breakTubes_54 hl (by decide) rfl (fun ls hl => ?_)
            refine lv_lload hx hb dX3_breakTubes_56 (lv_at hl 0 rfl) ?_
            refine lv_lconst (v := 0) hx hb dX3_breakTubes_58 (by decide) ?_
            refine w_bge (tgt := 75) K dX3_breakTubes_59 dX3_breakTubes_60 (by decide) (fun c10 => ?_) (fun c10 => ?_)
            · have h1 := if_t c10 h1
              refine lv_lload hx hb dX3_breakTubes_75 (lv_at hl 0 rfl) ?_
              refine lv_aload hx hb dX3_breakTubes_77 (lv_at hl 1 rfl) ?_
              obtain ⟨x11, ex11, h1⟩ := lt_out h1
              have kx11 := mR_X6_fullColumn l D ca ar ag P r j5 Rz_11 G xs hr hj5 x11 ex11.symm H.size
              refine w_callV0 K X wC_fstx kx11 hl.1 0 q667 q636 q637 q19 q638 hv_X6_fullColumn ⟨⟨Nat.le_of_ble_eq_true rfl, Nat.le_of_ble_eq_true rfl⟩, rfl, rfl⟩ (pl_tube hr hj5) rfl rfl rfl rfl (Nat.le_of_ble_eq_true rfl) dX3_breakTubes_79 ⟨Nat.le_of_ble_eq_true rfl, Nat.le_of_ble_eq_true rfl⟩ rfl (fun H locs X => ?_)
              refine lv_i2l hx hb dX3_breakTubes_82 rfl ?_
              refine w_ble (tgt := 124) K dX3_breakTubes_83 dX3_breakTubes_84 (by decide) (fun c12 => ?_) (fun c12 => ?_)
              · have h1 := if_t c12 h1
                exact J124 z11_3 z11_4 Rz_11 H locs X ls (lv_sub hl [2, 3, 4, 5, 6] rfl) h1
              · have h1 := if_f c12 h1
                refine lv_aload hx hb dX3_breakTubes_87 (lv_at hl 1 rfl) ?_
                refine lv_iconst (v := 2) hx hb dX3_breakTubes_89 (by decide) ?_
                obtain ⟨Rv13, eRv13, h1⟩ := lt_out h1
                refine p_tube K X hr hj5 6 (by decide) (upR_si eRv13) q114 dX3_breakTubes_90 (fun H locs X => ?_)
                obtain ⟨x14, ex14, h1⟩ := lt_out h1
                refine lv_iinc (v := x14) (lv' := [(3, .int x14), (6, .long x9), (5, .ref (ar r (j5 + 5))), (0, .ref (ar r 0)), (1, .int a1), (2, .ref (ar r (j2 + 2))), (4, .int z11_4)]) hx hb dX3_breakTubes_93 hl (k := 5) rfl (by rw [ex14]; rfl) (by decide) rfl (fun ls hl => ?_)
                refine lv_aload_n hx hb dX3_breakTubes_96 rfl (lv_at hl 5 rfl) ?_
                refine lv_dup hx hb dX3_breakTubes_97 rfl ?_
                refine g_legl K X hr hj2 (upR_2 _) 3 (by decide) q66 dX3_breakTubes_98 ?_
                refine lv_aload hx hb dX3_breakTubes_101 (lv_at hl 2 rfl) ?_
                obtain ⟨x15, ex15, h1⟩ := lt_out h1
                have kx15 := mR_X6_fullVolume l D ca ar ag P r j5 Rv13 G xs hr hj5 x15 ex15.symm H.size
                refine w_callV0 K X wC_fstx kx15 hl.1 0 q631 q632 q633 q19 q634 hv_X6_fullVolume ⟨⟨Nat.le_of_ble_eq_true rfl, Nat.le_of_ble_eq_true rfl⟩, rfl, rfl⟩ (pl_tube hr hj5) rfl rfl rfl rfl (Nat.le_of_ble_eq_true rfl) dX3_breakTubes_103 ⟨Nat.le_of_ble_eq_true rfl, Nat.le_of_ble_eq_true rfl⟩ rfl (fun H locs X => ?_)
                refine lv_lsub hx hb dX3_breakTubes_106 ?_
                obtain ⟨Rv16, eRv16, h1⟩ := lt_out h1
                refine p_legl K X hr hj2 3 (by decide) (upR_sl eRv16) q66 dX3_breakTubes_107 (fun H locs X => ?_)
                refine lv_aload_n hx hb dX3_breakTubes_110 rfl (lv_at hl 5 rfl) ?_
                refine lv_dup hx hb dX3_breakTubes_111 rfl ?_
                refine g_legl K X hr hj2 (upR_2 _) 4 (by decide) q69 dX3_breakTubes_112 ?_
                refine lv_aload hx hb dX3_breakTubes_115 (lv_at hl 2 rfl) ?_
                obtain ⟨x17, ex17, h1⟩ := lt_out h1
                have kx17 := mR_X6_fullVolume l D ca ar ag P r j5 Rv16 G xs hr hj5 x17 ex17.symm H.size
                refine w_callV0 K X wC_fstx kx17 hl.1 0 q631 q632 q633 q19 q634 hv_X6_fullVolume ⟨⟨Nat.le_of_ble_eq_true rfl, Nat.le_of_ble_eq_true rfl⟩, rfl, rfl⟩ (pl_tube hr hj5) rfl rfl rfl rfl (Nat.le_of_ble_eq_true rfl) dX3_breakTubes_117 ⟨Nat.le_of_ble_eq_true rfl, Nat.le_of_ble_eq_true rfl⟩ rfl (fun H locs X => ?_)
                refine lv_ladd hx hb dX3_breakTubes_120 ?_
                obtain ⟨Rv18, eRv18, h1⟩ := lt_out h1
                refine p_legl K X hr hj2 4 (by decide) (upR_sl eRv18) q69 dX3_breakTubes_121 (fun H locs X => ?_)
                exact J124 x14 z11_4 Rv18 H locs X ls (lv_sub hl [3, 4, 5, 0, 6] rfl) h1
            · have h1 := if_f c10 h1
              refine lv_aload hx hb dX3_breakTubes_63 (lv_at hl 1 rfl) ?_
              refine lv_iconst (v := 1) hx hb dX3_breakTubes_65 (by decide) ?_
              obtain ⟨Rv19, eRv19, h1⟩ := lt_out h1
              refine p_tube K X hr hj5 6 (by decide) (upR_si eRv19) q114 dX3_breakTubes_66 (fun H locs X => ?_)
              obtain ⟨x20, ex20, h1⟩ := lt_out h1
              refine lv_iinc (v := x20) (lv' := [(3, .int x20), (6, .long x9), (5, .ref (ar r (j5 + 5))), (0, .ref (ar r 0)), (1, .int a1), (2, .ref (ar r (j2 + 2))), (4, .int z11_4)]) hx hb dX3_breakTubes_69 hl (k := 5) rfl (by rw [ex20]; rfl) (by decide) rfl (fun ls hl => ?_)
              refine lv_goto (tgt := 124) hx hb dX3_breakTubes_72 (by decide) ?_
              exact J124 x20 z11_4 Rv19 H locs X ls (lv_sub hl [3, 4, 5, 0, 6] rfl) h1
  exact K11 n 0 0 R H locs X ls (lv_sub hl [3, 4, 2, 1, 0] rfl) he1
theorem mC_X3_breakTubes (l : Launch) (D : va_G) (ca : Nat → ClassId) (ar : Nat → Nat → Nat) (ag : Nat → Nat) (n : Nat) (P : RowsS) (r : Nat) (G : GlbS) (xs : va_W) (hr : r < 13) (a1 : Int32) (res : Int32) (R' : RowS) (h0 : f_X3_breakTubes n (P r) a1 = some (res, R')) (sz : Nat) : Met l yX3_breakTubes (ws_ yX3_breakTubes cX3_breakTubes 8 (some .int)) rm_X3_breakTubes (PCw D ca (wC ar ag ca P G ++ xs) sz [.ref (ar r 0), .int a1]) (QMw D (wC ar ag ca P G ++ xs) (wC ar ag ca (va_up P r R') G ++ xs) sz (some (.int res))) 0 0 (AL (wC ar ag ca P G ++ xs) sz) := by
  have k := m_X3_breakTubes l D ca ar ag n P r (P r) G xs hr a1 res R' h0 sz
  simpa only [up_self] using k
-- X3_fullVolumes
def b_X3_fullVolumes_53  (y53_l2 : Int64) : Option Int64 :=
  some y53_l2
def b_X3_fullVolumes_47  (y47_l2 : Int64) (y47_l4 : Int32) : Option ((Int64 × Int32) ⊕ Int64) :=
  lt (y47_l4 + 1) fun x5 =>
  some (.inl (y47_l2, x5))
def l_X3_fullVolumes_5 (R : RowS) (a1 : Int32) (z5_2 : Int64) (z5_4 : Int32) : Option ((Int64 × Int32) ⊕ Int64) :=
  if (R.1 0 2) ≤ z5_4 then
    some (.inr z5_2)
  else
    lt (f_X3_tubeAt R z5_4) fun x2 =>
    lt (x2) fun j3 =>
    if (R.1 (j3 + 5) 0) = a1 then
      if (R.1 (j3 + 5) 6) = 0 then
        lt (f_X6_fullVolume (R.1 (j3 + 5))) fun x7 =>
        lt (z5_2 + x7) fun x8 =>
        b_X3_fullVolumes_47 x8 z5_4
      else
        b_X3_fullVolumes_47 z5_2 z5_4
    else
      b_X3_fullVolumes_47 z5_2 z5_4
def f_X3_fullVolumes (n : Nat) (R : RowS) (a1 : Int32) : Option Int64 :=
  ob (wloop (fun t => l_X3_fullVolumes_5 R a1 t.1 t.2) n (0, 0)) (fun t => b_X3_fullVolumes_53 t)
abbrev rm_X3_fullVolumes : Room := { frames := 2, cells := 0, slots := 0, locals := 40 }
set_option maxRecDepth 100000 in
set_option maxHeartbeats 4000000 in
theorem m_X3_fullVolumes (l : Launch) (D : va_G) (ca : Nat → ClassId) (ar : Nat → Nat → Nat) (ag : Nat → Nat) (n : Nat) (P : RowsS) (r : Nat) (R : RowS) (G : GlbS) (xs : va_W) (hr : r < 13) (a1 : Int32) (res : Int64) (h0 : f_X3_fullVolumes n R a1 = some res) (sz : Nat) : Met l yX3_fullVolumes (ws_ yX3_fullVolumes cX3_fullVolumes 6 (some .long)) rm_X3_fullVolumes (PCw D ca (wC ar ag ca (va_up P r R) G ++ xs) sz [.ref (ar r 0), .int a1]) (QMw D (wC ar ag ca (va_up P r R) G ++ xs) (wC ar ag ca (va_up P r R) G ++ xs) sz (some (.long res))) 0 0 (AL (wC ar ag ca (va_up P r R) G ++ xs) sz) := by
  refine met_of (by decide) (Nat.le_of_ble_eq_true rfl) (fun p e s m args below meth c K hr0 X hsz ls hl => ?_)
  have K : MC D ca p s m args meth c cX3_fullVolumes 6 RX3 := K
  have hx := K.1
  have hb := K.2.1
  have hl : lv_has ls 6 [(0, .ref (ar r 0)), (1, .int a1)] := hl
  generalize hQ : MQ below _ args s 0 0 _ = Q
  unfold f_X3_fullVolumes at h0
  suffices Z : ∀ (H : Heap) (locs : List Loc) (X : RW D (wC ar ag ca (va_up P r R) G ++ xs) s.heap H locs), W p l e rm_X3_fullVolumes s m args below meth c H locs 0 0 Q (F0 m 0 ls []) from Z _ _ X
  intro H locs X
  have J53 : ∀ (y53_l2 : Int64) (H : Heap) (locs : List Loc) (X : RW D (wC ar ag ca (va_up P r R) G ++ xs) s.heap H locs) (ls : Array Slot) (hl : lv_has ls 6 [(2, .long y53_l2)]) (h0 : b_X3_fullVolumes_53 y53_l2 = some res), W p l e rm_X3_fullVolumes s m args below meth c H locs 0 0 Q (F0 m 53 ls []) := by
    intro y53_l2 H locs X ls hl h0
    unfold b_X3_fullVolumes_53 at h0
    refine lv_lload_n hx hb dX3_fullVolumes_53 rfl (lv_at hl 0 rfl) ?_
    have h0 := Option.some.inj h0
    subst h0
    subst hQ
    exact w_lret K hr0 X wC_fstx hsz dX3_fullVolumes_54
  refine lv_lconst (v := 0) hx hb dX3_fullVolumes_0 (by decide) ?_
  refine lv_lstore_n (lv' := [(2, .long 0), (0, .ref (ar r 0)), (1, .int a1)]) hx hb dX3_fullVolumes_1 rfl hl (by decide) rfl (fun ls hl => ?_)
  refine lv_iconst (v := 0) hx hb dX3_fullVolumes_2 (by decide) ?_
  refine lv_istore (lv' := [(4, .int 0), (2, .long 0), (0, .ref (ar r 0)), (1, .int a1)]) hx hb dX3_fullVolumes_3 hl (by decide) rfl (fun ls hl => ?_)
  obtain ⟨e_1, he1, h0⟩ := ob_out h0
  have K5 : ∀ (k : Nat) (z5_2 : Int64) (z5_4 : Int32) (H : Heap) (locs : List Loc) (X : RW D (wC ar ag ca (va_up P r R) G ++ xs) s.heap H locs) (ls : Array Slot) (hl : lv_has ls 6 [(0, .ref (ar r 0)), (1, .int a1), (2, .long z5_2), (4, .int z5_4)]) (hw : wloop (fun t => l_X3_fullVolumes_5 R a1 t.1 t.2) k (z5_2, z5_4) = some e_1), W p l e rm_X3_fullVolumes s m args below meth c H locs 0 0 Q (F0 m 5 ls []) := by
    intro k
    induction k with
    | zero => intro z5_2 z5_4 H locs X ls hl hw; exact (wloop_0 hw).elim
    | succ k ih1 =>
      intro z5_2 z5_4 H locs X ls hl hw
      obtain ⟨x_1, h1, hx1⟩ := wloop_out hw
      have h1 : l_X3_fullVolumes_5 R a1 z5_2 z5_4 = some x_1 := h1
      unfold l_X3_fullVolumes_5 at h1
      have J47 : ∀ (y47_l2 : Int64) (y47_l4 : Int32) (H : Heap) (locs : List Loc) (X : RW D (wC ar ag ca (va_up P r R) G ++ xs) s.heap H locs) (ls : Array Slot) (hl : lv_has ls 6 [(0, .ref (ar r 0)), (1, .int a1), (2, .long y47_l2), (4, .int y47_l4)]) (h1 : b_X3_fullVolumes_47 y47_l2 y47_l4 = some x_1), W p l e rm_X3_fullVolumes s m args below meth c H locs 0 0 Q (F0 m 47 ls []) := by
        intro y47_l2 y47_l4 H locs X ls hl h1
        unfold b_X3_fullVolumes_47 at h1
        obtain ⟨x5, ex5, h1⟩ := lt_out h1
        refine lv_iinc (v := x5) (lv' := [(4, .int x5), (0, .ref (ar r 0)), (1, .int a1), (2, .long y47_l2)]) hx hb dX3_fullVolumes_47 hl (k := 3) rfl (by rw [ex5]; rfl) (by decide) rfl (fun ls hl => ?_)
        refine lv_goto (tgt := 5) hx hb dX3_fullVolumes_50 (by decide) ?_
        exact ih1 y47_l2 x5 H locs X ls (lv_sub hl [1, 2, 3, 0] rfl) (wl_l h1 hx1)
      refine lv_iload hx hb dX3_fullVolumes_5 (lv_at hl 3 rfl) ?_
      refine lv_aload_n hx hb dX3_fullVolumes_7 rfl (lv_at hl 0 rfl) ?_
      refine g_rowi K X hr (upR_1 _) 2 (by decide) q149 dX3_fullVolumes_8 ?_
      refine lv_icmp_ge (tgt := 53) hx hb dX3_fullVolumes_11 (by decide) (fun c1 => ?_) (fun c1 => ?_)
      · have h1 := if_t c1 h1
        have q1 := wl_r h1 hx1
        exact J53 z5_2 H locs X ls (lv_sub hl [2] rfl) (by rw [q1] at h0; exact h0)
      · have h1 := if_f c1 h1
        refine lv_aload_n hx hb dX3_fullVolumes_14 rfl (lv_at hl 0 rfl) ?_
        refine lv_iload hx hb dX3_fullVolumes_15 (lv_at hl 3 rfl) ?_
        obtain ⟨x2, ex2, h1⟩ := lt_out h1
        have kx2 := m_X3_tubeAt l D ca ar ag P r R G xs hr z5_4 x2 ex2.symm H.size
        refine w_callV0 K X wC_fstx kx2 hl.1 1 q574 q575 q576 q17 q577 hv_X3_tubeAt ⟨⟨Nat.le_of_ble_eq_true rfl, Nat.le_of_ble_eq_true rfl⟩, rfl, rfl⟩ (pl_rowo hr) rfl rfl rfl rfl (Nat.le_of_ble_eq_true rfl) dX3_fullVolumes_17 ⟨Nat.le_of_ble_eq_true rfl, Nat.le_of_ble_eq_true rfl⟩ rfl (fun H locs X => ?_)
        obtain ⟨j3, ej3, h1⟩ := lt_out h1
        rw [← ej3]
        have hj3 : j3 < 13 := by rw [ej3]; exact lt_X3_tubeAt ex2
        refine lv_astore (lv' := [(5, .ref (ar r (j3 + 5))), (0, .ref (ar r 0)), (1, .int a1), (2, .long z5_2), (4, .int z5_4)]) hx hb dX3_fullVolumes_20 hl (by decide) rfl (fun ls hl => ?_)
        refine lv_aload hx hb dX3_fullVolumes_22 (lv_at hl 0 rfl) ?_
        refine g_tube K X hr hj3 (upR_1 _) 0 (by decide) q99 dX3_fullVolumes_24 ?_
        refine lv_iload_n hx hb dX3_fullVolumes_27 rfl (lv_at hl 2 rfl) ?_
        refine lv_icmp_ne (tgt := 47) hx hb dX3_fullVolumes_28 (by decide) (fun c4 => ?_) (fun c4 => ?_)
        · have h1 := if_f c4 h1
          exact J47 z5_2 z5_4 H locs X ls (lv_sub hl [1, 2, 3, 4] rfl) h1
        · have h1 := if_t c4 h1
          refine lv_aload hx hb dX3_fullVolumes_31 (lv_at hl 0 rfl) ?_
          refine g_tube K X hr hj3 (upR_1 _) 6 (by decide) q114 dX3_fullVolumes_33 ?_
          refine lv_if_ne (tgt := 47) hx hb dX3_fullVolumes_36 (by decide) (fun c6 => ?_) (fun c6 => ?_)
          · have h1 := if_f c6 h1
            exact J47 z5_2 z5_4 H locs X ls (lv_sub hl [1, 2, 3, 4] rfl) h1
          · have h1 := if_t c6 h1
            refine lv_lload_n hx hb dX3_fullVolumes_39 rfl (lv_at hl 3 rfl) ?_
            refine lv_aload hx hb dX3_fullVolumes_40 (lv_at hl 0 rfl) ?_
            obtain ⟨x7, ex7, h1⟩ := lt_out h1
            have kx7 := mR_X6_fullVolume l D ca ar ag P r j3 R G xs hr hj3 x7 ex7.symm H.size
            refine w_callV0 K X wC_fstx kx7 hl.1 0 q631 q632 q633 q19 q634 hv_X6_fullVolume ⟨⟨Nat.le_of_ble_eq_true rfl, Nat.le_of_ble_eq_true rfl⟩, rfl, rfl⟩ (pl_tube hr hj3) rfl rfl rfl rfl (Nat.le_of_ble_eq_true rfl) dX3_fullVolumes_42 ⟨Nat.le_of_ble_eq_true rfl, Nat.le_of_ble_eq_true rfl⟩ rfl (fun H locs X => ?_)
            refine lv_ladd hx hb dX3_fullVolumes_45 ?_
            obtain ⟨x8, ex8, h1⟩ := lt_out h1
            refine w_long ex8 ?_
            refine lv_lstore_n (lv' := [(2, .long x8), (5, .ref (ar r (j3 + 5))), (0, .ref (ar r 0)), (1, .int a1), (4, .int z5_4)]) hx hb dX3_fullVolumes_46 rfl hl (by decide) rfl (fun ls hl => ?_)
            exact J47 x8 z5_4 H locs X ls (lv_sub hl [2, 3, 0, 4] rfl) h1
  exact K5 n 0 0 H locs X ls (lv_sub hl [2, 3, 1, 0] rfl) he1
theorem mC_X3_fullVolumes (l : Launch) (D : va_G) (ca : Nat → ClassId) (ar : Nat → Nat → Nat) (ag : Nat → Nat) (n : Nat) (P : RowsS) (r : Nat) (G : GlbS) (xs : va_W) (hr : r < 13) (a1 : Int32) (res : Int64) (h0 : f_X3_fullVolumes n (P r) a1 = some res) (sz : Nat) : Met l yX3_fullVolumes (ws_ yX3_fullVolumes cX3_fullVolumes 6 (some .long)) rm_X3_fullVolumes (PCw D ca (wC ar ag ca P G ++ xs) sz [.ref (ar r 0), .int a1]) (QMw D (wC ar ag ca P G ++ xs) (wC ar ag ca P G ++ xs) sz (some (.long res))) 0 0 (AL (wC ar ag ca P G ++ xs) sz) := by
  have k := m_X3_fullVolumes l D ca ar ag n P r (P r) G xs hr a1 res h0 sz
  simpa only [up_self] using k
-- X3_volumesAt
def b_X3_volumesAt_63  (y63_l4 : Int64) : Option Int64 :=
  some y63_l4
def b_X3_volumesAt_57  (y57_l4 : Int64) (y57_l6 : Int32) : Option ((Int64 × Int32) ⊕ Int64) :=
  lt (y57_l6 + 1) fun x5 =>
  some (.inl (y57_l4, x5))
def l_X3_volumesAt_6 (R : RowS) (a1 : Int32) (a2 : Int64) (z6_4 : Int64) (z6_6 : Int32) : Option ((Int64 × Int32) ⊕ Int64) :=
  if (R.1 0 2) ≤ z6_6 then
    some (.inr z6_4)
  else
    lt (f_X3_tubeAt R z6_6) fun x2 =>
    lt (x2) fun j3 =>
    if (R.1 (j3 + 5) 0) = a1 then
      lt (f_X6_columnAt (R.1 (j3 + 5)) a2) fun x6 =>
      lt (z6_4 + ((x6 * ((R.1 (j3 + 5) 2).toInt64)) * ((R.1 (j3 + 5) 2).toInt64))) fun x7 =>
      b_X3_volumesAt_57 x7 z6_6
    else
      b_X3_volumesAt_57 z6_4 z6_6
def f_X3_volumesAt (n : Nat) (R : RowS) (a1 : Int32) (a2 : Int64) : Option Int64 :=
  ob (wloop (fun t => l_X3_volumesAt_6 R a1 a2 t.1 t.2) n (0, 0)) (fun t => b_X3_volumesAt_63 t)
abbrev rm_X3_volumesAt : Room := { frames := 2, cells := 0, slots := 0, locals := 62 }
set_option maxRecDepth 100000 in
set_option maxHeartbeats 4000000 in
theorem m_X3_volumesAt (l : Launch) (D : va_G) (ca : Nat → ClassId) (ar : Nat → Nat → Nat) (ag : Nat → Nat) (n : Nat) (P : RowsS) (r : Nat) (R : RowS) (G : GlbS) (xs : va_W) (hr : r < 13) (a1 : Int32) (a2 : Int64) (res : Int64) (h0 : f_X3_volumesAt n R a1 a2 = some res) (sz : Nat) : Met l yX3_volumesAt (ws_ yX3_volumesAt cX3_volumesAt 8 (some .long)) rm_X3_volumesAt (PCw D ca (wC ar ag ca (va_up P r R) G ++ xs) sz [.ref (ar r 0), .int a1, .long a2]) (QMw D (wC ar ag ca (va_up P r R) G ++ xs) (wC ar ag ca (va_up P r R) G ++ xs) sz (some (.long res))) 0 0 (AL (wC ar ag ca (va_up P r R) G ++ xs) sz) := by
  refine met_of (by decide) (Nat.le_of_ble_eq_true rfl) (fun p e s m args below meth c K hr0 X hsz ls hl => ?_)
  have K : MC D ca p s m args meth c cX3_volumesAt 8 RX3 := K
  have hx := K.1
  have hb := K.2.1
  have hl : lv_has ls 8 [(0, .ref (ar r 0)), (1, .int a1), (2, .long a2)] := hl
  generalize hQ : MQ below _ args s 0 0 _ = Q
  unfold f_X3_volumesAt at h0
  suffices Z : ∀ (H : Heap) (locs : List Loc) (X : RW D (wC ar ag ca (va_up P r R) G ++ xs) s.heap H locs), W p l e rm_X3_volumesAt s m args below meth c H locs 0 0 Q (F0 m 0 ls []) from Z _ _ X
  intro H locs X
  have J63 : ∀ (y63_l4 : Int64) (H : Heap) (locs : List Loc) (X : RW D (wC ar ag ca (va_up P r R) G ++ xs) s.heap H locs) (ls : Array Slot) (hl : lv_has ls 8 [(4, .long y63_l4)]) (h0 : b_X3_volumesAt_63 y63_l4 = some res), W p l e rm_X3_volumesAt s m args below meth c H locs 0 0 Q (F0 m 63 ls []) := by
    intro y63_l4 H locs X ls hl h0
    unfold b_X3_volumesAt_63 at h0
    refine lv_lload hx hb dX3_volumesAt_63 (lv_at hl 0 rfl) ?_
    have h0 := Option.some.inj h0
    subst h0
    subst hQ
    exact w_lret K hr0 X wC_fstx hsz dX3_volumesAt_65
  refine lv_lconst (v := 0) hx hb dX3_volumesAt_0 (by decide) ?_
  refine lv_lstore (lv' := [(4, .long 0), (0, .ref (ar r 0)), (1, .int a1), (2, .long a2)]) hx hb dX3_volumesAt_1 hl (by decide) rfl (fun ls hl => ?_)
  refine lv_iconst (v := 0) hx hb dX3_volumesAt_3 (by decide) ?_
  refine lv_istore (lv' := [(6, .int 0), (4, .long 0), (0, .ref (ar r 0)), (1, .int a1), (2, .long a2)]) hx hb dX3_volumesAt_4 hl (by decide) rfl (fun ls hl => ?_)
  obtain ⟨e_1, he1, h0⟩ := ob_out h0
  have K6 : ∀ (k : Nat) (z6_4 : Int64) (z6_6 : Int32) (H : Heap) (locs : List Loc) (X : RW D (wC ar ag ca (va_up P r R) G ++ xs) s.heap H locs) (ls : Array Slot) (hl : lv_has ls 8 [(0, .ref (ar r 0)), (1, .int a1), (2, .long a2), (4, .long z6_4), (6, .int z6_6)]) (hw : wloop (fun t => l_X3_volumesAt_6 R a1 a2 t.1 t.2) k (z6_4, z6_6) = some e_1), W p l e rm_X3_volumesAt s m args below meth c H locs 0 0 Q (F0 m 6 ls []) := by
    intro k
    induction k with
    | zero => intro z6_4 z6_6 H locs X ls hl hw; exact (wloop_0 hw).elim
    | succ k ih1 =>
      intro z6_4 z6_6 H locs X ls hl hw
      obtain ⟨x_1, h1, hx1⟩ := wloop_out hw
      have h1 : l_X3_volumesAt_6 R a1 a2 z6_4 z6_6 = some x_1 := h1
      unfold l_X3_volumesAt_6 at h1
      have J57 : ∀ (y57_l4 : Int64) (y57_l6 : Int32) (H : Heap) (locs : List Loc) (X : RW D (wC ar ag ca (va_up P r R) G ++ xs) s.heap H locs) (ls : Array Slot) (hl : lv_has ls 8 [(0, .ref (ar r 0)), (1, .int a1), (2, .long a2), (4, .long y57_l4), (6, .int y57_l6)]) (h1 : b_X3_volumesAt_57 y57_l4 y57_l6 = some x_1), W p l e rm_X3_volumesAt s m args below meth c H locs 0 0 Q (F0 m 57 ls []) := by
        intro y57_l4 y57_l6 H locs X ls hl h1
        unfold b_X3_volumesAt_57 at h1
        obtain ⟨x5, ex5, h1⟩ := lt_out h1
        refine lv_iinc (v := x5) (lv' := [(6, .int x5), (0, .ref (ar r 0)), (1, .int a1), (2, .long a2), (4, .long y57_l4)]) hx hb dX3_volumesAt_57 hl (k := 4) rfl (by rw [ex5]; rfl) (by decide) rfl (fun ls hl => ?_)
        refine lv_goto (tgt := 6) hx hb dX3_volumesAt_60 (by decide) ?_
        exact ih1 y57_l4 x5 H locs X ls (lv_sub hl [1, 2, 3, 4, 0] rfl) (wl_l h1 hx1)
      refine lv_iload hx hb dX3_volumesAt_6 (lv_at hl 4 rfl) ?_
      refine lv_aload_n hx hb dX3_volumesAt_8 rfl (lv_at hl 0 rfl) ?_
      refine g_rowi K X hr (upR_1 _) 2 (by decide) q149 dX3_volumesAt_9 ?_
      refine lv_icmp_ge (tgt := 63) hx hb dX3_volumesAt_12 (by decide) (fun c1 => ?_) (fun c1 => ?_)
      · have h1 := if_t c1 h1
        have q1 := wl_r h1 hx1
        exact J63 z6_4 H locs X ls (lv_sub hl [3] rfl) (by rw [q1] at h0; exact h0)
      · have h1 := if_f c1 h1
        refine lv_aload_n hx hb dX3_volumesAt_15 rfl (lv_at hl 0 rfl) ?_
        refine lv_iload hx hb dX3_volumesAt_16 (lv_at hl 4 rfl) ?_
        obtain ⟨x2, ex2, h1⟩ := lt_out h1
        have kx2 := m_X3_tubeAt l D ca ar ag P r R G xs hr z6_6 x2 ex2.symm H.size
        refine w_callV0 K X wC_fstx kx2 hl.1 1 q574 q575 q576 q17 q577 hv_X3_tubeAt ⟨⟨Nat.le_of_ble_eq_true rfl, Nat.le_of_ble_eq_true rfl⟩, rfl, rfl⟩ (pl_rowo hr) rfl rfl rfl rfl (Nat.le_of_ble_eq_true rfl) dX3_volumesAt_18 ⟨Nat.le_of_ble_eq_true rfl, Nat.le_of_ble_eq_true rfl⟩ rfl (fun H locs X => ?_)
        obtain ⟨j3, ej3, h1⟩ := lt_out h1
        rw [← ej3]
        have hj3 : j3 < 13 := by rw [ej3]; exact lt_X3_tubeAt ex2
        refine lv_astore (lv' := [(7, .ref (ar r (j3 + 5))), (0, .ref (ar r 0)), (1, .int a1), (2, .long a2), (4, .long z6_4), (6, .int z6_6)]) hx hb dX3_volumesAt_21 hl (by decide) rfl (fun ls hl => ?_)
        refine lv_aload hx hb dX3_volumesAt_23 (lv_at hl 0 rfl) ?_
        refine g_tube K X hr hj3 (upR_1 _) 0 (by decide) q99 dX3_volumesAt_25 ?_
        refine lv_iload_n hx hb dX3_volumesAt_28 rfl (lv_at hl 2 rfl) ?_
        refine lv_icmp_ne (tgt := 57) hx hb dX3_volumesAt_29 (by decide) (fun c4 => ?_) (fun c4 => ?_)
        · have h1 := if_f c4 h1
          exact J57 z6_4 z6_6 H locs X ls (lv_sub hl [1, 2, 3, 4, 5] rfl) h1
        · have h1 := if_t c4 h1
          refine lv_lload hx hb dX3_volumesAt_32 (lv_at hl 4 rfl) ?_
          refine lv_aload hx hb dX3_volumesAt_34 (lv_at hl 0 rfl) ?_
          refine lv_lload_n hx hb dX3_volumesAt_36 rfl (lv_at hl 3 rfl) ?_
          obtain ⟨x6, ex6, h1⟩ := lt_out h1
          have kx6 := mR_X6_columnAt l D ca ar ag P r j3 R G xs hr hj3 a2 x6 ex6.symm H.size
          refine w_callV0 K X wC_fstx kx6 hl.1 1 q647 q648 q649 q19 q650 hv_X6_columnAt ⟨⟨Nat.le_of_ble_eq_true rfl, Nat.le_of_ble_eq_true rfl⟩, rfl, rfl⟩ (pl_tube hr hj3) rfl rfl rfl rfl (Nat.le_of_ble_eq_true rfl) dX3_volumesAt_37 ⟨Nat.le_of_ble_eq_true rfl, Nat.le_of_ble_eq_true rfl⟩ rfl (fun H locs X => ?_)
          refine lv_aload hx hb dX3_volumesAt_40 (lv_at hl 0 rfl) ?_
          refine g_tube K X hr hj3 (upR_1 _) 2 (by decide) q103 dX3_volumesAt_42 ?_
          refine lv_i2l hx hb dX3_volumesAt_45 rfl ?_
          refine lv_lmul hx hb dX3_volumesAt_46 ?_
          refine lv_aload hx hb dX3_volumesAt_47 (lv_at hl 0 rfl) ?_
          refine g_tube K X hr hj3 (upR_1 _) 2 (by decide) q103 dX3_volumesAt_49 ?_
          refine lv_i2l hx hb dX3_volumesAt_52 rfl ?_
          refine lv_lmul hx hb dX3_volumesAt_53 ?_
          refine lv_ladd hx hb dX3_volumesAt_54 ?_
          obtain ⟨x7, ex7, h1⟩ := lt_out h1
          refine w_long ex7 ?_
          refine lv_lstore (lv' := [(4, .long x7), (7, .ref (ar r (j3 + 5))), (0, .ref (ar r 0)), (1, .int a1), (2, .long a2), (6, .int z6_6)]) hx hb dX3_volumesAt_55 hl (by decide) rfl (fun ls hl => ?_)
          exact J57 x7 z6_6 H locs X ls (lv_sub hl [2, 3, 4, 0, 5] rfl) h1
  exact K6 n 0 0 H locs X ls (lv_sub hl [2, 3, 4, 1, 0] rfl) he1
theorem mC_X3_volumesAt (l : Launch) (D : va_G) (ca : Nat → ClassId) (ar : Nat → Nat → Nat) (ag : Nat → Nat) (n : Nat) (P : RowsS) (r : Nat) (G : GlbS) (xs : va_W) (hr : r < 13) (a1 : Int32) (a2 : Int64) (res : Int64) (h0 : f_X3_volumesAt n (P r) a1 a2 = some res) (sz : Nat) : Met l yX3_volumesAt (ws_ yX3_volumesAt cX3_volumesAt 8 (some .long)) rm_X3_volumesAt (PCw D ca (wC ar ag ca P G ++ xs) sz [.ref (ar r 0), .int a1, .long a2]) (QMw D (wC ar ag ca P G ++ xs) (wC ar ag ca P G ++ xs) sz (some (.long res))) 0 0 (AL (wC ar ag ca P G ++ xs) sz) := by
  have k := m_X3_volumesAt l D ca ar ag n P r (P r) G xs hr a1 a2 res h0 sz
  simpa only [up_self] using k
-- X3_greatestLevel
def b_X3_greatestLevel_121  (y121_l3 : Int64) : Option Int64 :=
  some y121_l3
def b_X3_greatestLevel_115  (y115_l3 : Int64) (y115_l5 : Int64) (y115_l7 : Int32) : Option ((Int64 × Int64 × Int32) ⊕ Int64) :=
  lt (y115_l7 + 1) fun x13 =>
  some (.inl (y115_l3, y115_l5, x13))
def l_X3_greatestLevel_51 (n : Nat) (R : RowS) (a1 : Int32) (j2 : Nat) (z51_3 : Int64) (z51_5 : Int64) (z51_7 : Int32) : Option ((Int64 × Int64 × Int32) ⊕ Int64) :=
  if 64 ≤ z51_7 then
    some (.inr z51_3)
  else
    if z51_5 ≤ z51_3 then
      some (.inr z51_3)
    else
      lt (z51_3 + (((z51_5 - z51_3) + 1) / 2)) fun x9 =>
      ob (f_X3_volumesAt n R a1 x9) fun x10 =>
      if (R.2 (j2 + 2) 3) < ((((R.1 (j2 + 2) 1).toInt64) * x9) + x10) then
        lt (x9 - 1) fun x12 =>
        b_X3_greatestLevel_115 z51_3 x12 z51_7
      else
        b_X3_greatestLevel_115 x9 z51_5 z51_7
def f_X3_greatestLevel (n : Nat) (R : RowS) (a1 : Int32) : Option Int64 :=
  lt (f_X3_legAt R a1) fun x1 =>
  lt (x1) fun j2 =>
  if (R.1 (j2 + 2) 1) = 0 then
    some 0
  else
    ob (f_X3_fullVolumes n R a1) fun x4 =>
    ob (f_J9_floorDiv_f86c9 ((R.2 (j2 + 2) 3) - x4) ((R.1 (j2 + 2) 1).toInt64)) fun x5 =>
    ob (f_J9_floorDiv_f86c9 (R.2 (j2 + 2) 3) ((R.1 (j2 + 2) 1).toInt64)) fun x6 =>
    ob (wloop (fun t => l_X3_greatestLevel_51 n R a1 j2 t.1 t.2.1 t.2.2) n (x5, x6, 0)) (fun t => b_X3_greatestLevel_121 t)
abbrev rm_X3_greatestLevel : Room := { frames := 3, cells := 0, slots := 0, locals := 89 }
set_option maxRecDepth 100000 in
set_option maxHeartbeats 4000000 in
theorem m_X3_greatestLevel (l : Launch) (D : va_G) (ca : Nat → ClassId) (ar : Nat → Nat → Nat) (ag : Nat → Nat) (n : Nat) (P : RowsS) (r : Nat) (R : RowS) (G : GlbS) (xs : va_W) (hr : r < 13) (a1 : Int32) (res : Int64) (h0 : f_X3_greatestLevel n R a1 = some res) (sz : Nat) : Met l yX3_greatestLevel (ws_ yX3_greatestLevel cX3_greatestLevel 10 (some .long)) rm_X3_greatestLevel (PCw D ca (wC ar ag ca (va_up P r R) G ++ xs) sz [.ref (ar r 0), .int a1]) (QMw D (wC ar ag ca (va_up P r R) G ++ xs) (wC ar ag ca (va_up P r R) G ++ xs) sz (some (.long res))) 0 0 (AL (wC ar ag ca (va_up P r R) G ++ xs) sz) := by
  refine met_of (by decide) (Nat.le_of_ble_eq_true rfl) (fun p e s m args below meth c K hr0 X hsz ls hl => ?_)
  have K : MC D ca p s m args meth c cX3_greatestLevel 10 RX3 := K
  have hx := K.1
  have hb := K.2.1
  have hl : lv_has ls 10 [(0, .ref (ar r 0)), (1, .int a1)] := hl
  generalize hQ : MQ below _ args s 0 0 _ = Q
  unfold f_X3_greatestLevel at h0
  suffices Z : ∀ (H : Heap) (locs : List Loc) (X : RW D (wC ar ag ca (va_up P r R) G ++ xs) s.heap H locs), W p l e rm_X3_greatestLevel s m args below meth c H locs 0 0 Q (F0 m 0 ls []) from Z _ _ X
  intro H locs X
  have J121 : ∀ (y121_l3 : Int64) (H : Heap) (locs : List Loc) (X : RW D (wC ar ag ca (va_up P r R) G ++ xs) s.heap H locs) (ls : Array Slot) (hl : lv_has ls 10 [(3, .long y121_l3)]) (h0 : b_X3_greatestLevel_121 y121_l3 = some res), W p l e rm_X3_greatestLevel s m args below meth c H locs 0 0 Q (F0 m 121 ls []) := by
    intro y121_l3 H locs X ls hl h0
    unfold b_X3_greatestLevel_121 at h0
    refine lv_lload_n hx hb dX3_greatestLevel_121 rfl (lv_at hl 0 rfl) ?_
    have h0 := Option.some.inj h0
    subst h0
    subst hQ
    exact w_lret K hr0 X wC_fstx hsz dX3_greatestLevel_122
  refine lv_aload_n hx hb dX3_greatestLevel_0 rfl (lv_at hl 0 rfl) ?_
  refine lv_iload_n hx hb dX3_greatestLevel_1 rfl (lv_at hl 1 rfl) ?_
  obtain ⟨x1, ex1, h0⟩ := lt_out h0
  have kx1 := m_X3_legAt l D ca ar ag P r R G xs hr a1 x1 ex1.symm H.size
  refine w_callV0 K X wC_fstx kx1 hl.1 1 q618 q555 q556 q17 q557 hv_X3_legAt ⟨⟨Nat.le_of_ble_eq_true rfl, Nat.le_of_ble_eq_true rfl⟩, rfl, rfl⟩ (pl_rowo hr) rfl rfl rfl rfl (Nat.le_of_ble_eq_true rfl) dX3_greatestLevel_2 ⟨Nat.le_of_ble_eq_true rfl, Nat.le_of_ble_eq_true rfl⟩ rfl (fun H locs X => ?_)
  obtain ⟨j2, ej2, h0⟩ := lt_out h0
  rw [← ej2]
  have hj2 : j2 < 2 := by rw [ej2]; exact lt_X3_legAt ex1
  refine lv_astore_n (lv' := [(2, .ref (ar r (j2 + 2))), (0, .ref (ar r 0)), (1, .int a1)]) hx hb dX3_greatestLevel_5 rfl hl (by decide) rfl (fun ls hl => ?_)
  refine lv_aload_n hx hb dX3_greatestLevel_6 rfl (lv_at hl 0 rfl) ?_
  refine g_legi K X hr hj2 (upR_1 _) 1 (by decide) q60 dX3_greatestLevel_7 ?_
  refine lv_if_ne (tgt := 15) hx hb dX3_greatestLevel_10 (by decide) (fun c3 => ?_) (fun c3 => ?_)
  · have h0 := if_f c3 h0
    refine lv_aload_n hx hb dX3_greatestLevel_15 rfl (lv_at hl 0 rfl) ?_
    refine g_legl K X hr hj2 (upR_2 _) 3 (by decide) q66 dX3_greatestLevel_16 ?_
    refine lv_aload_n hx hb dX3_greatestLevel_19 rfl (lv_at hl 1 rfl) ?_
    refine lv_iload_n hx hb dX3_greatestLevel_20 rfl (lv_at hl 2 rfl) ?_
    obtain ⟨x4, ex4, h0⟩ := ob_out h0
    have kx4 := m_X3_fullVolumes l D ca ar ag n P r R G xs hr a1 x4 ex4 H.size
    refine w_callV0 K X wC_fstx kx4 hl.1 1 q627 q629 q11 q17 q630 hv_X3_fullVolumes ⟨⟨Nat.le_of_ble_eq_true rfl, Nat.le_of_ble_eq_true rfl⟩, rfl, rfl⟩ (pl_rowo hr) rfl rfl rfl rfl (Nat.le_of_ble_eq_true rfl) dX3_greatestLevel_21 ⟨Nat.le_of_ble_eq_true rfl, Nat.le_of_ble_eq_true rfl⟩ rfl (fun H locs X => ?_)
    refine lv_lsub hx hb dX3_greatestLevel_24 ?_
    refine lv_aload_n hx hb dX3_greatestLevel_25 rfl (lv_at hl 0 rfl) ?_
    refine g_legi K X hr hj2 (upR_1 _) 1 (by decide) q60 dX3_greatestLevel_26 ?_
    refine lv_i2l hx hb dX3_greatestLevel_29 rfl ?_
    obtain ⟨x5, ex5, h0⟩ := ob_out h0
    have kx5 := m_J9_floorDiv_f86c9 l D ca (wC ar ag ca (va_up P r R) G ++ xs) ((R.2 (j2 + 2) 3) - x4) ((R.1 (j2 + 2) 1).toInt64) x5 ex5 H.size
    refine w_callS0 K X wC_fstx kx5 hl.1 2 q639 q640 q32 q641 hs_J9_floorDiv_f86c9 ⟨⟨Nat.le_of_ble_eq_true rfl, Nat.le_of_ble_eq_true rfl⟩, rfl, rfl⟩ rfl rfl (Nat.le_of_ble_eq_true rfl) dX3_greatestLevel_30 ⟨Nat.le_of_ble_eq_true rfl, Nat.le_of_ble_eq_true rfl⟩ rfl (fun H locs X => ?_)
    refine lv_lstore_n (lv' := [(3, .long x5), (2, .ref (ar r (j2 + 2))), (0, .ref (ar r 0)), (1, .int a1)]) hx hb dX3_greatestLevel_33 rfl hl (by decide) rfl (fun ls hl => ?_)
    refine lv_aload_n hx hb dX3_greatestLevel_34 rfl (lv_at hl 1 rfl) ?_
    refine g_legl K X hr hj2 (upR_2 _) 3 (by decide) q66 dX3_greatestLevel_35 ?_
    refine lv_aload_n hx hb dX3_greatestLevel_38 rfl (lv_at hl 1 rfl) ?_
    refine g_legi K X hr hj2 (upR_1 _) 1 (by decide) q60 dX3_greatestLevel_39 ?_
    refine lv_i2l hx hb dX3_greatestLevel_42 rfl ?_
    obtain ⟨x6, ex6, h0⟩ := ob_out h0
    have kx6 := m_J9_floorDiv_f86c9 l D ca (wC ar ag ca (va_up P r R) G ++ xs) (R.2 (j2 + 2) 3) ((R.1 (j2 + 2) 1).toInt64) x6 ex6 H.size
    refine w_callS0 K X wC_fstx kx6 hl.1 2 q639 q640 q32 q641 hs_J9_floorDiv_f86c9 ⟨⟨Nat.le_of_ble_eq_true rfl, Nat.le_of_ble_eq_true rfl⟩, rfl, rfl⟩ rfl rfl (Nat.le_of_ble_eq_true rfl) dX3_greatestLevel_43 ⟨Nat.le_of_ble_eq_true rfl, Nat.le_of_ble_eq_true rfl⟩ rfl (fun H locs X => ?_)
    refine lv_lstore (lv' := [(5, .long x6), (3, .long x5), (2, .ref (ar r (j2 + 2))), (0, .ref (ar r 0)), (1, .int a1)]) hx hb dX3_greatestLevel_46 hl (by decide) rfl (fun ls hl => ?_)
    refine lv_iconst (v := 0) hx hb dX3_greatestLevel_48 (by decide) ?_
    refine lv_istore (lv' := [(7, .int 0), (5, .long x6), (3, .long x5), (2, .ref (ar r (j2 + 2))), (0, .ref (ar r 0)), (1, .int a1)]) hx hb dX3_greatestLevel_49 hl (by decide) rfl (fun ls hl => ?_)
    obtain ⟨e_1, he1, h0⟩ := ob_out h0
    have K51 : ∀ (k : Nat) (z51_3 : Int64) (z51_5 : Int64) (z51_7 : Int32) (H : Heap) (locs : List Loc) (X : RW D (wC ar ag ca (va_up P r R) G ++ xs) s.heap H locs) (ls : Array Slot) (hl : lv_has ls 10 [(0, .ref (ar r 0)), (1, .int a1), (2, .ref (ar r (j2 + 2))), (3, .long z51_3), (5, .long z51_5), (7, .int z51_7)]) (hw : wloop (fun t => l_X3_greatestLevel_51 n R a1 j2 t.1 t.2.1 t.2.2) k (z51_3, z51_5, z51_7) = some e_1), W p l e rm_X3_greatestLevel s m args below meth c H locs 0 0 Q (F0 m 51 ls []) := by
      intro k
      induction k with
      | zero => intro z51_3 z51_5 z51_7 H locs X ls hl hw; exact (wloop_0 hw).elim
      | succ k ih1 =>
        intro z51_3 z51_5 z51_7 H locs X ls hl hw
        obtain ⟨x_1, h1, hx1⟩ := wloop_out hw
        have h1 : l_X3_greatestLevel_51 n R a1 j2 z51_3 z51_5 z51_7 = some x_1 := h1
        unfold l_X3_greatestLevel_51 at h1
        have J115 : ∀ (y115_l3 : Int64) (y115_l5 : Int64) (y115_l7 : Int32) (H : Heap) (locs : List Loc) (X : RW D (wC ar ag ca (va_up P r R) G ++ xs) s.heap H locs) (ls : Array Slot) (hl : lv_has ls 10 [(0, .ref (ar r 0)), (1, .int a1), (2, .ref (ar r (j2 + 2))), (3, .long y115_l3), (5, .long y115_l5), (7, .int y115_l7)]) (h1 : b_X3_greatestLevel_115 y115_l3 y115_l5 y115_l7 = some x_1), W p l e rm_X3_greatestLevel s m args below meth c H locs 0 0 Q (F0 m 115 ls []) := by
          intro y115_l3 y115_l5 y115_l7 H locs X ls hl h1
          unfold b_X3_greatestLevel_115 at h1
          obtain ⟨x13, ex13, h1⟩ := lt_out h1
          refine lv_iinc (v := x13) (lv' := [(7, .int x13), (0, .ref (ar r 0)), (1, .int a1), (2, .ref (ar r (j2 + 2))), (3, .long y115_l3), (5, .long y115_l5)]) hx hb dX3_greatestLevel_115 hl (k := 5) rfl (by rw [ex13]; rfl) (by decide) rfl (fun ls hl => ?_)
          refine lv_goto (tgt := 51) hx hb dX3_greatestLevel_118 (by decide) ?_
          exact ih1 y115_l3 y115_l5 x13 H locs X ls (lv_sub hl [1, 2, 3, 4, 5, 0] rfl) (wl_l h1 hx1)
        refine lv_iload hx hb dX3_greatestLevel_51 (lv_at hl 5 rfl) ?_
        refine lv_bipush (v := 64) hx hb dX3_greatestLevel_53 (by decide) ?_
        refine lv_icmp_ge (tgt := 121) hx hb dX3_greatestLevel_55 (by decide) (fun c7 => ?_) (fun c7 => ?_)
        · have h1 := if_t c7 h1
          have q1 := wl_r h1 hx1
          exact J121 z51_3 H locs X ls (lv_sub hl [3] rfl) (by rw [q1] at h0; exact h0)
        · have h1 := if_f c7 h1
          refine lv_lload_n hx hb dX3_greatestLevel_58 rfl (lv_at hl 3 rfl) ?_
          refine lv_lload hx hb dX3_greatestLevel_59 (lv_at hl 4 rfl) ?_
          refine w_bge (tgt := 121) K dX3_greatestLevel_61 dX3_greatestLevel_62 (by decide) (fun c8 => ?_) (fun c8 => ?_)
          · have h1 := if_t c8 h1
            have q1 := wl_r h1 hx1
            exact J121 z51_3 H locs X ls (lv_sub hl [3] rfl) (by rw [q1] at h0; exact h0)
          · have h1 := if_f c8 h1
            refine lv_lload_n hx hb dX3_greatestLevel_65 rfl (lv_at hl 3 rfl) ?_
            refine lv_lload hx hb dX3_greatestLevel_66 (lv_at hl 4 rfl) ?_
            refine lv_lload_n hx hb dX3_greatestLevel_68 rfl (lv_at hl 3 rfl) ?_
            refine lv_lsub hx hb dX3_greatestLevel_69 ?_
            refine lv_lconst (v := 1) hx hb dX3_greatestLevel_70 (by decide) ?_
            refine lv_ladd hx hb dX3_greatestLevel_71 ?_
            refine lv_ldc2 hx hb K.2.2.2.1 (K.2.2.2.2.1 _ q642) dX3_greatestLevel_72 ?_
            refine lv_ldiv hx hb dX3_greatestLevel_75 (by decide) ?_
            refine lv_ladd hx hb dX3_greatestLevel_76 ?_
            obtain ⟨x9, ex9, h1⟩ := lt_out h1
            refine w_long ex9 ?_
            refine lv_lstore (lv' := [(8, .long x9), (0, .ref (ar r 0)), (1, .int a1), (2, .ref (ar r (j2 + 2))), (3, .long z51_3), (5, .long z51_5), (7, .int z51_7)]) hx hb dX3_greatestLevel_77 hl (by decide) rfl (fun ls hl => ?_)
            refine lv_aload_n hx hb dX3_greatestLevel_79 rfl (lv_at hl 3 rfl) ?_
            refine g_legi K X hr hj2 (upR_1 _) 1 (by decide) q60 dX3_greatestLevel_80 ?_
            refine lv_i2l hx hb dX3_greatestLevel_83 rfl ?_
            refine lv_lload hx hb dX3_greatestLevel_84 (lv_at hl 0 rfl) ?_
            refine lv_lmul hx hb dX3_greatestLevel_86 ?_
            refine lv_aload_n hx hb dX3_greatestLevel_87 rfl (lv_at hl 1 rfl) ?_
            refine lv_iload_n hx hb dX3_greatestLevel_88 rfl (lv_at hl 2 rfl) ?_
            refine lv_lload hx hb dX3_greatestLevel_89 (lv_at hl 0 rfl) ?_
            obtain ⟨x10, ex10, h1⟩ := ob_out h1
            have kx10 := m_X3_volumesAt l D ca ar ag n P r R G xs hr a1 x9 x10 ex10 H.size
            refine w_callV0 K X wC_fstx kx10 hl.1 2 q643 q644 q645 q17 q646 hv_X3_volumesAt ⟨⟨Nat.le_of_ble_eq_true rfl, Nat.le_of_ble_eq_true rfl⟩, rfl, rfl⟩ (pl_rowo hr) rfl rfl rfl rfl (Nat.le_of_ble_eq_true rfl) dX3_greatestLevel_91 ⟨Nat.le_of_ble_eq_true rfl, Nat.le_of_ble_eq_true rfl⟩ rfl (fun H locs X => ?_)
            refine lv_ladd hx hb dX3_greatestLevel_94 ?_
            refine lv_aload_n hx hb dX3_greatestLevel_95 rfl (lv_at hl 3 rfl) ?_
            refine g_legl K X hr hj2 (upR_2 _) 3 (by decide) q66 dX3_greatestLevel_96 ?_
            refine w_bgt (tgt := 109) K dX3_greatestLevel_99 dX3_greatestLevel_100 (by decide) (fun c11 => ?_) (fun c11 => ?_)
            · have h1 := if_t c11 h1
              refine lv_lload hx hb dX3_greatestLevel_109 (lv_at hl 0 rfl) ?_
              refine lv_lconst (v := 1) hx hb dX3_greatestLevel_111 (by decide) ?_
              refine lv_lsub hx hb dX3_greatestLevel_112 ?_
              obtain ⟨x12, ex12, h1⟩ := lt_out h1
              refine w_long ex12 ?_
              refine lv_lstore (lv' := [(5, .long x12), (8, .long x9), (0, .ref (ar r 0)), (1, .int a1), (2, .ref (ar r (j2 + 2))), (3, .long z51_3), (7, .int z51_7)]) hx hb dX3_greatestLevel_113 hl (by decide) rfl (fun ls hl => ?_)
              exact J115 z51_3 x12 z51_7 H locs X ls (lv_sub hl [2, 3, 4, 5, 0, 6] rfl) h1
            · have h1 := if_f c11 h1
              refine lv_lload hx hb dX3_greatestLevel_103 (lv_at hl 0 rfl) ?_
              refine lv_lstore_n (lv' := [(3, .long x9), (8, .long x9), (0, .ref (ar r 0)), (1, .int a1), (2, .ref (ar r (j2 + 2))), (5, .long z51_5), (7, .int z51_7)]) hx hb dX3_greatestLevel_105 rfl hl (by decide) rfl (fun ls hl => ?_)
              refine lv_goto (tgt := 115) hx hb dX3_greatestLevel_106 (by decide) ?_
              exact J115 x9 z51_5 z51_7 H locs X ls (lv_sub hl [2, 3, 4, 0, 5, 6] rfl) h1
    exact K51 n x5 x6 0 H locs X ls (lv_sub hl [4, 5, 3, 2, 1, 0] rfl) he1
  · have h0 := if_t c3 h0
    refine lv_lconst (v := 0) hx hb dX3_greatestLevel_13 (by decide) ?_
    have h0 := Option.some.inj h0
    subst h0
    subst hQ
    exact w_lret K hr0 X wC_fstx hsz dX3_greatestLevel_14
theorem mC_X3_greatestLevel (l : Launch) (D : va_G) (ca : Nat → ClassId) (ar : Nat → Nat → Nat) (ag : Nat → Nat) (n : Nat) (P : RowsS) (r : Nat) (G : GlbS) (xs : va_W) (hr : r < 13) (a1 : Int32) (res : Int64) (h0 : f_X3_greatestLevel n (P r) a1 = some res) (sz : Nat) : Met l yX3_greatestLevel (ws_ yX3_greatestLevel cX3_greatestLevel 10 (some .long)) rm_X3_greatestLevel (PCw D ca (wC ar ag ca P G ++ xs) sz [.ref (ar r 0), .int a1]) (QMw D (wC ar ag ca P G ++ xs) (wC ar ag ca P G ++ xs) sz (some (.long res))) 0 0 (AL (wC ar ag ca P G ++ xs) sz) := by
  have k := m_X3_greatestLevel l D ca ar ag n P r (P r) G xs hr a1 res h0 sz
  simpa only [up_self] using k
-- X3_settleLeg
def b_X3_settleLeg_53  (y53_l3 : Int32) (R_53 : RowS) : Option (Int32 × RowS) :=
  some (y53_l3, R_53)
def l_X3_settleLeg_14 (n : Nat) (a1 : Int32) (j2 : Nat) (z14_3 : Int32) (z14_4 : Int32) (z14_5 : Int32) (Rz_14 : RowS) : Option ((Int32 × Int32 × Int32 × RowS) ⊕ (Int32 × RowS)) :=
  if 12 < z14_5 then
    some (.inr (z14_3, Rz_14))
  else
    if z14_4 ≤ 0 then
      some (.inr (z14_3, Rz_14))
    else
      ob (f_X3_greatestLevel n Rz_14 a1) fun x5 =>
      lt (sl Rz_14 (j2 + 2) 6 x5) fun Rv6 =>
      ob (f_X3_breakTubes n Rv6 a1) fun x7 =>
      lt (x7.2) fun Rv8 =>
      lt (x7.1) fun x9 =>
      lt (z14_3 + x9) fun x10 =>
      lt (z14_5 + 1) fun x11 =>
      some (.inl (x10, x9, x11, Rv8))
def f_X3_settleLeg (n : Nat) (R : RowS) (a1 : Int32) : Option (Int32 × RowS) :=
  lt (f_X3_legAt R a1) fun x1 =>
  lt (x1) fun j2 =>
  ob (wloop (fun t => l_X3_settleLeg_14 n a1 j2 t.1 t.2.1 t.2.2.1 t.2.2.2) n (0, 1, 0, R)) (fun t => b_X3_settleLeg_53 t.1 t.2)
abbrev rm_X3_settleLeg : Room := { frames := 4, cells := 0, slots := 0, locals := 118 }
set_option maxRecDepth 100000 in
set_option maxHeartbeats 4000000 in
theorem m_X3_settleLeg (l : Launch) (D : va_G) (ca : Nat → ClassId) (ar : Nat → Nat → Nat) (ag : Nat → Nat) (n : Nat) (P : RowsS) (r : Nat) (R : RowS) (G : GlbS) (xs : va_W) (hr : r < 13) (a1 : Int32) (res : Int32) (R' : RowS) (h0 : f_X3_settleLeg n R a1 = some (res, R')) (sz : Nat) : Met l yX3_settleLeg (ws_ yX3_settleLeg cX3_settleLeg 6 (some .int)) rm_X3_settleLeg (PCw D ca (wC ar ag ca (va_up P r R) G ++ xs) sz [.ref (ar r 0), .int a1]) (QMw D (wC ar ag ca (va_up P r R) G ++ xs) (wC ar ag ca (va_up P r (R')) G ++ xs) sz (some (.int res))) 0 0 (AL (wC ar ag ca (va_up P r R) G ++ xs) sz) := by
  refine met_of (by decide) (Nat.le_of_ble_eq_true rfl) (fun p e s m args below meth c K hr0 X hsz ls hl => ?_)
  have K : MC D ca p s m args meth c cX3_settleLeg 6 RX3 := K
  have hx := K.1
  have hb := K.2.1
  have hl : lv_has ls 6 [(0, .ref (ar r 0)), (1, .int a1)] := hl
  generalize hQ : MQ below _ args s 0 0 _ = Q
  unfold f_X3_settleLeg at h0
  suffices Z : ∀ (H : Heap) (locs : List Loc) (X : RW D (wC ar ag ca (va_up P r R) G ++ xs) s.heap H locs), W p l e rm_X3_settleLeg s m args below meth c H locs 0 0 Q (F0 m 0 ls []) from Z _ _ X
  intro H locs X
  have J53 : ∀ (y53_l3 : Int32) (R_53 : RowS) (H : Heap) (locs : List Loc) (X : RW D (wC ar ag ca (va_up P r R_53) G ++ xs) s.heap H locs) (ls : Array Slot) (hl : lv_has ls 6 [(3, .int y53_l3)]) (h0 : b_X3_settleLeg_53 y53_l3 R_53 = some (res, R')), W p l e rm_X3_settleLeg s m args below meth c H locs 0 0 Q (F0 m 53 ls []) := by
    intro y53_l3 R_53 H locs X ls hl h0
    unfold b_X3_settleLeg_53 at h0
    refine lv_iload_n hx hb dX3_settleLeg_53 rfl (lv_at hl 0 rfl) ?_
    have h0 := Option.some.inj h0
    obtain ⟨q_0, q_1⟩ := Prod.mk.inj h0
    subst q_0
    subst q_1
    subst hQ
    exact w_iret K hr0 X wC_fstx hsz dX3_settleLeg_54
  refine lv_aload_n hx hb dX3_settleLeg_0 rfl (lv_at hl 0 rfl) ?_
  refine lv_iload_n hx hb dX3_settleLeg_1 rfl (lv_at hl 1 rfl) ?_
  obtain ⟨x1, ex1, h0⟩ := lt_out h0
  have kx1 := m_X3_legAt l D ca ar ag P r R G xs hr a1 x1 ex1.symm H.size
  refine w_callV0 K X wC_fstx kx1 hl.1 1 q618 q555 q556 q17 q557 hv_X3_legAt ⟨⟨Nat.le_of_ble_eq_true rfl, Nat.le_of_ble_eq_true rfl⟩, rfl, rfl⟩ (pl_rowo hr) rfl rfl rfl rfl (Nat.le_of_ble_eq_true rfl) dX3_settleLeg_2 ⟨Nat.le_of_ble_eq_true rfl, Nat.le_of_ble_eq_true rfl⟩ rfl (fun H locs X => ?_)
  obtain ⟨j2, ej2, h0⟩ := lt_out h0
  rw [← ej2]
  have hj2 : j2 < 2 := by rw [ej2]; exact lt_X3_legAt ex1
  refine lv_astore_n (lv' := [(2, .ref (ar r (j2 + 2))), (0, .ref (ar r 0)), (1, .int a1)]) hx hb dX3_settleLeg_5 rfl hl (by decide) rfl (fun ls hl => ?_)
  refine lv_iconst (v := 0) hx hb dX3_settleLeg_6 (by decide) ?_
  refine lv_istore_n (lv' := [(3, .int 0), (2, .ref (ar r (j2 + 2))), (0, .ref (ar r 0)), (1, .int a1)]) hx hb dX3_settleLeg_7 rfl hl (by decide) rfl (fun ls hl => ?_)
  refine lv_iconst (v := 1) hx hb dX3_settleLeg_8 (by decide) ?_
  refine lv_istore (lv' := [(4, .int 1), (3, .int 0), (2, .ref (ar r (j2 + 2))), (0, .ref (ar r 0)), (1, .int a1)]) hx hb dX3_settleLeg_9 hl (by decide) rfl (fun ls hl => ?_)
  refine lv_iconst (v := 0) hx hb dX3_settleLeg_11 (by decide) ?_
  refine lv_istore (lv' := [(5, .int 0), (4, .int 1), (3, .int 0), (2, .ref (ar r (j2 + 2))), (0, .ref (ar r 0)), (1, .int a1)]) hx hb dX3_settleLeg_12 hl (by decide) rfl (fun ls hl => ?_)
  obtain ⟨e_1, he1, h0⟩ := ob_out h0
  have K14 : ∀ (k : Nat) (z14_3 : Int32) (z14_4 : Int32) (z14_5 : Int32) (Rz_14 : RowS) (H : Heap) (locs : List Loc) (X : RW D (wC ar ag ca (va_up P r Rz_14) G ++ xs) s.heap H locs) (ls : Array Slot) (hl : lv_has ls 6 [(0, .ref (ar r 0)), (1, .int a1), (2, .ref (ar r (j2 + 2))), (3, .int z14_3), (4, .int z14_4), (5, .int z14_5)]) (hw : wloop (fun t => l_X3_settleLeg_14 n a1 j2 t.1 t.2.1 t.2.2.1 t.2.2.2) k (z14_3, z14_4, z14_5, Rz_14) = some e_1), W p l e rm_X3_settleLeg s m args below meth c H locs 0 0 Q (F0 m 14 ls []) := by
    intro k
    induction k with
    | zero => intro z14_3 z14_4 z14_5 Rz_14 H locs X ls hl hw; exact (wloop_0 hw).elim
    | succ k ih1 =>
      intro z14_3 z14_4 z14_5 Rz_14 H locs X ls hl hw
      obtain ⟨x_1, h1, hx1⟩ := wloop_out hw
      have h1 : l_X3_settleLeg_14 n a1 j2 z14_3 z14_4 z14_5 Rz_14 = some x_1 := h1
      unfold l_X3_settleLeg_14 at h1
      refine lv_iload hx hb dX3_settleLeg_14 (lv_at hl 5 rfl) ?_
      refine lv_bipush (v := 12) hx hb dX3_settleLeg_16 (by decide) ?_
      refine lv_icmp_gt (tgt := 53) hx hb dX3_settleLeg_18 (by decide) (fun c3 => ?_) (fun c3 => ?_)
      · have h1 := if_t c3 h1
        have q1 := wl_r h1 hx1
        exact J53 z14_3 Rz_14 H locs X ls (lv_sub hl [3] rfl) (by rw [q1] at h0; exact h0)
      · have h1 := if_f c3 h1
        refine lv_iload hx hb dX3_settleLeg_21 (lv_at hl 4 rfl) ?_
        refine lv_if_le (tgt := 53) hx hb dX3_settleLeg_23 (by decide) (fun c4 => ?_) (fun c4 => ?_)
        · have h1 := if_t c4 h1
          have q1 := wl_r h1 hx1
          exact J53 z14_3 Rz_14 H locs X ls (lv_sub hl [3] rfl) (by rw [q1] at h0; exact h0)
        · have h1 := if_f c4 h1
          refine lv_aload_n hx hb dX3_settleLeg_26 rfl (lv_at hl 2 rfl) ?_
          refine lv_aload_n hx hb dX3_settleLeg_27 rfl (lv_at hl 0 rfl) ?_
          refine lv_iload_n hx hb dX3_settleLeg_28 rfl (lv_at hl 1 rfl) ?_
          obtain ⟨x5, ex5, h1⟩ := ob_out h1
          have kx5 := m_X3_greatestLevel l D ca ar ag n P r Rz_14 G xs hr a1 x5 ex5 H.size
          refine w_callV0 K X wC_fstx kx5 hl.1 1 q623 q625 q10 q17 q626 hv_X3_greatestLevel ⟨⟨Nat.le_of_ble_eq_true rfl, Nat.le_of_ble_eq_true rfl⟩, rfl, rfl⟩ (pl_rowo hr) rfl rfl rfl rfl (Nat.le_of_ble_eq_true rfl) dX3_settleLeg_29 ⟨Nat.le_of_ble_eq_true rfl, Nat.le_of_ble_eq_true rfl⟩ rfl (fun H locs X => ?_)
          obtain ⟨Rv6, eRv6, h1⟩ := lt_out h1
          refine p_legl K X hr hj2 6 (by decide) (upR_sl eRv6) q74 dX3_settleLeg_32 (fun H locs X => ?_)
          refine lv_aload_n hx hb dX3_settleLeg_35 rfl (lv_at hl 0 rfl) ?_
          refine lv_iload_n hx hb dX3_settleLeg_36 rfl (lv_at hl 1 rfl) ?_
          obtain ⟨x7, ex7, h1⟩ := ob_out h1
          obtain ⟨Rv8, eRv8, h1⟩ := lt_out h1
          have kx7 := m_X3_breakTubes l D ca ar ag n P r Rv6 G xs hr a1 x7.1 x7.2 ex7 H.size
          rw [← eRv8] at kx7
          refine w_callV0 K X wC_fstx kx7 hl.1 1 q662 q664 q12 q17 q665 hv_X3_breakTubes ⟨⟨Nat.le_of_ble_eq_true rfl, Nat.le_of_ble_eq_true rfl⟩, rfl, rfl⟩ (pl_rowo hr) rfl rfl rfl rfl (Nat.le_of_ble_eq_true rfl) dX3_settleLeg_37 ⟨Nat.le_of_ble_eq_true rfl, Nat.le_of_ble_eq_true rfl⟩ rfl (fun H locs X => ?_)
          obtain ⟨x9, ex9, h1⟩ := lt_out h1
          refine w_int ex9 ?_
          refine lv_istore (lv' := [(4, .int x9), (0, .ref (ar r 0)), (1, .int a1), (2, .ref (ar r (j2 + 2))), (3, .int z14_3), (5, .int z14_5)]) hx hb dX3_settleLeg_40 hl (by decide) rfl (fun ls hl => ?_)
          refine lv_iload_n hx hb dX3_settleLeg_42 rfl (lv_at hl 4 rfl) ?_
          refine lv_iload hx hb dX3_settleLeg_43 (lv_at hl 0 rfl) ?_
          refine lv_iadd hx hb dX3_settleLeg_45 ?_
          obtain ⟨x10, ex10, h1⟩ := lt_out h1
          refine w_int ex10 ?_
          refine lv_istore_n (lv' := [(3, .int x10), (4, .int x9), (0, .ref (ar r 0)), (1, .int a1), (2, .ref (ar r (j2 + 2))), (5, .int z14_5)]) hx hb dX3_settleLeg_46 rfl hl (by decide) rfl (fun ls hl => ?_)
          obtain ⟨x11, ex11, h1⟩ := lt_out h1
          refine lv_iinc (v := x11) (lv' := [(5, .int x11), (3, .int x10), (4, .int x9), (0, .ref (ar r 0)), (1, .int a1), (2, .ref (ar r (j2 + 2)))]) hx hb dX3_settleLeg_47 hl (k := 5) rfl (by rw [ex11]; rfl) (by decide) rfl (fun ls hl => ?_)
          refine lv_goto (tgt := 14) hx hb dX3_settleLeg_50 (by decide) ?_
          exact ih1 x10 x9 x11 Rv8 H locs X ls (lv_sub hl [3, 4, 5, 1, 2, 0] rfl) (wl_l h1 hx1)
  exact K14 n 0 1 0 R H locs X ls (lv_sub hl [4, 5, 3, 2, 1, 0] rfl) he1
theorem mC_X3_settleLeg (l : Launch) (D : va_G) (ca : Nat → ClassId) (ar : Nat → Nat → Nat) (ag : Nat → Nat) (n : Nat) (P : RowsS) (r : Nat) (G : GlbS) (xs : va_W) (hr : r < 13) (a1 : Int32) (res : Int32) (R' : RowS) (h0 : f_X3_settleLeg n (P r) a1 = some (res, R')) (sz : Nat) : Met l yX3_settleLeg (ws_ yX3_settleLeg cX3_settleLeg 6 (some .int)) rm_X3_settleLeg (PCw D ca (wC ar ag ca P G ++ xs) sz [.ref (ar r 0), .int a1]) (QMw D (wC ar ag ca P G ++ xs) (wC ar ag ca (va_up P r R') G ++ xs) sz (some (.int res))) 0 0 (AL (wC ar ag ca P G ++ xs) sz) := by
  have k := m_X3_settleLeg l D ca ar ag n P r (P r) G xs hr a1 res R' h0 sz
  simpa only [up_self] using k
-- X3_settle
def b_X3_settle_146  (y146_l1 : Int32) (R_146 : RowS) : Option (Int32 × RowS) :=
  some (y146_l1, R_146)
def l_X3_settle_106  (z106_2 : Int32) (Rz_106 : RowS) : Option ((Int32 × RowS) ⊕ RowS) :=
  if (Rz_106.1 0 2) ≤ z106_2 then
    some (.inr Rz_106)
  else
    lt (f_X3_tubeAt Rz_106 z106_2) fun x8 =>
    lt (x8) fun j9 =>
    lt (f_X3_legAt Rz_106 (Rz_106.1 (j9 + 5) 0)) fun x10 =>
    lt (x10) fun j11 =>
    lt (f_X6_columnAt (Rz_106.1 (j9 + 5)) (Rz_106.2 (j11 + 2) 6)) fun x12 =>
    lt (si Rz_106 (j9 + 5) 9 x12.toInt32) fun Rv13 =>
    lt (z106_2 + 1) fun x14 =>
    some (.inl (x14, Rv13))
def b_X3_settle_92 (n : Nat) (R_92 : RowS) : Option (Int32 × RowS) :=
  ob (f_X3_settleLeg n R_92 0) fun x2 =>
  lt (x2.2) fun Rv3 =>
  ob (f_X3_settleLeg n Rv3 1) fun x4 =>
  lt (x4.2) fun Rv5 =>
  lt (x2.1 + x4.1) fun x6 =>
  ob (wloop (fun t => l_X3_settle_106 t.1 t.2) n (0, Rv5)) (fun t => b_X3_settle_146 x6 t)
def b_X3_settle_83  (y83_l1 : Int32) (y83_s0 : Nat) (y83_s1 : Int32) (R_83 : RowS) : Option ((Int32 × RowS) ⊕ RowS) :=
  lt (si R_83 (y83_s0 + 5) 8 y83_s1) fun Rv23 =>
  lt (y83_l1 + 1) fun x24 =>
  some (.inl (x24, Rv23))
def b_X3_settle_59  (y59_l1 : Int32) (y59_l2 : Nat) (y59_l3 : Nat) (y59_s0 : Nat) (y59_s1 : Int32) (R_59 : RowS) : Option ((Int32 × RowS) ⊕ RowS) :=
  lt (si R_59 (y59_s0 + 5) 7 y59_s1) fun Rv21 =>
  if (Rv21.1 (y59_l2 + 5) 2) = 0 then
    b_X3_settle_83 y59_l1 y59_l2 0 Rv21
  else
    b_X3_settle_83 y59_l1 y59_l2 ((Rv21.1 (y59_l3 + 2) 2) / (Rv21.1 (y59_l2 + 5) 2)) Rv21
def l_X3_settle_2  (z2_1 : Int32) (Rz_2 : RowS) : Option ((Int32 × RowS) ⊕ RowS) :=
  if (Rz_2.1 0 2) ≤ z2_1 then
    some (.inr Rz_2)
  else
    lt (f_X3_tubeAt Rz_2 z2_1) fun x15 =>
    lt (x15) fun j16 =>
    lt (f_X3_legAt Rz_2 (Rz_2.1 (j16 + 5) 0)) fun x17 =>
    lt (x17) fun j18 =>
    if (Rz_2.1 (j18 + 2) 0) = 0 then
      b_X3_settle_59 z2_1 j16 j18 j16 0 Rz_2
    else
      lt (f_X3_pressureAt Rz_2 (Rz_2.1 (j16 + 5) 1)) fun x20 =>
      b_X3_settle_59 z2_1 j16 j18 j16 ((((Rz_2.1 0 1) - x20) * 1000) / (Rz_2.1 (j18 + 2) 0)) Rz_2
def f_X3_settle (n : Nat) (R : RowS) : Option (Int32 × RowS) :=
  ob (wloop (fun t => l_X3_settle_2 t.1 t.2) n (0, R)) (fun t => b_X3_settle_92 n t)
abbrev rm_X3_settle : Room := { frames := 5, cells := 0, slots := 0, locals := 143 }
set_option maxRecDepth 100000 in
set_option maxHeartbeats 4000000 in
theorem m_X3_settle (l : Launch) (D : va_G) (ca : Nat → ClassId) (ar : Nat → Nat → Nat) (ag : Nat → Nat) (n : Nat) (P : RowsS) (r : Nat) (R : RowS) (G : GlbS) (xs : va_W) (hr : r < 13) (res : Int32) (R' : RowS) (h0 : f_X3_settle n R = some (res, R')) (sz : Nat) : Met l yX3_settle (ws_ yX3_settle cX3_settle 4 (some .int)) rm_X3_settle (PCw D ca (wC ar ag ca (va_up P r R) G ++ xs) sz [.ref (ar r 0)]) (QMw D (wC ar ag ca (va_up P r R) G ++ xs) (wC ar ag ca (va_up P r (R')) G ++ xs) sz (some (.int res))) 0 0 (AL (wC ar ag ca (va_up P r R) G ++ xs) sz) := by
  refine met_of (by decide) (Nat.le_of_ble_eq_true rfl) (fun p e s m args below meth c K hr0 X hsz ls hl => ?_)
  have K : MC D ca p s m args meth c cX3_settle 4 RX3 := K
  have hx := K.1
  have hb := K.2.1
  have hl : lv_has ls 4 [(0, .ref (ar r 0))] := hl
  generalize hQ : MQ below _ args s 0 0 _ = Q
  unfold f_X3_settle at h0
  suffices Z : ∀ (H : Heap) (locs : List Loc) (X : RW D (wC ar ag ca (va_up P r R) G ++ xs) s.heap H locs), W p l e rm_X3_settle s m args below meth c H locs 0 0 Q (F0 m 0 ls []) from Z _ _ X
  intro H locs X
  have J146 : ∀ (y146_l1 : Int32) (R_146 : RowS) (H : Heap) (locs : List Loc) (X : RW D (wC ar ag ca (va_up P r R_146) G ++ xs) s.heap H locs) (ls : Array Slot) (hl : lv_has ls 4 [(1, .int y146_l1)]) (h0 : b_X3_settle_146 y146_l1 R_146 = some (res, R')), W p l e rm_X3_settle s m args below meth c H locs 0 0 Q (F0 m 146 ls []) := by
    intro y146_l1 R_146 H locs X ls hl h0
    unfold b_X3_settle_146 at h0
    refine lv_iload_n hx hb dX3_settle_146 rfl (lv_at hl 0 rfl) ?_
    have h0 := Option.some.inj h0
    obtain ⟨q_0, q_1⟩ := Prod.mk.inj h0
    subst q_0
    subst q_1
    subst hQ
    exact w_iret K hr0 X wC_fstx hsz dX3_settle_147
  have J92 : ∀ (R_92 : RowS) (H : Heap) (locs : List Loc) (X : RW D (wC ar ag ca (va_up P r R_92) G ++ xs) s.heap H locs) (ls : Array Slot) (hl : lv_has ls 4 [(0, .ref (ar r 0))]) (h0 : b_X3_settle_92 n R_92 = some (res, R')), W p l e rm_X3_settle s m args below meth c H locs 0 0 Q (F0 m 92 ls []) := by
    intro R_92 H locs X ls hl h0
    unfold b_X3_settle_92 at h0
    refine lv_aload_n hx hb dX3_settle_92 rfl (lv_at hl 0 rfl) ?_
    refine lv_iconst (v := 0) hx hb dX3_settle_93 (by decide) ?_
    obtain ⟨x2, ex2, h0⟩ := ob_out h0
    obtain ⟨Rv3, eRv3, h0⟩ := lt_out h0
    have kx2 := m_X3_settleLeg l D ca ar ag n P r R_92 G xs hr 0 x2.1 x2.2 ex2 H.size
    rw [← eRv3] at kx2
    refine w_callV0 K X wC_fstx kx2 hl.1 1 q619 q621 q9 q17 q622 hv_X3_settleLeg ⟨⟨Nat.le_of_ble_eq_true rfl, Nat.le_of_ble_eq_true rfl⟩, rfl, rfl⟩ (pl_rowo hr) rfl rfl rfl rfl (Nat.le_of_ble_eq_true rfl) dX3_settle_94 ⟨Nat.le_of_ble_eq_true rfl, Nat.le_of_ble_eq_true rfl⟩ rfl (fun H locs X => ?_)
    refine lv_aload_n hx hb dX3_settle_97 rfl (lv_at hl 0 rfl) ?_
    refine lv_iconst (v := 1) hx hb dX3_settle_98 (by decide) ?_
    obtain ⟨x4, ex4, h0⟩ := ob_out h0
    obtain ⟨Rv5, eRv5, h0⟩ := lt_out h0
    have kx4 := m_X3_settleLeg l D ca ar ag n P r Rv3 G xs hr 1 x4.1 x4.2 ex4 H.size
    rw [← eRv5] at kx4
    refine w_callV0 K X wC_fstx kx4 hl.1 1 q619 q621 q9 q17 q622 hv_X3_settleLeg ⟨⟨Nat.le_of_ble_eq_true rfl, Nat.le_of_ble_eq_true rfl⟩, rfl, rfl⟩ (pl_rowo hr) rfl rfl rfl rfl (Nat.le_of_ble_eq_true rfl) dX3_settle_99 ⟨Nat.le_of_ble_eq_true rfl, Nat.le_of_ble_eq_true rfl⟩ rfl (fun H locs X => ?_)
    refine lv_iadd hx hb dX3_settle_102 ?_
    obtain ⟨x6, ex6, h0⟩ := lt_out h0
    refine w_int ex6 ?_
    refine lv_istore_n (lv' := [(1, .int x6), (0, .ref (ar r 0))]) hx hb dX3_settle_103 rfl hl (by decide) rfl (fun ls hl => ?_)
    refine lv_iconst (v := 0) hx hb dX3_settle_104 (by decide) ?_
    refine lv_istore_n (lv' := [(2, .int 0), (1, .int x6), (0, .ref (ar r 0))]) hx hb dX3_settle_105 rfl hl (by decide) rfl (fun ls hl => ?_)
    obtain ⟨e_1, he1, h0⟩ := ob_out h0
    have K106 : ∀ (k : Nat) (z106_2 : Int32) (Rz_106 : RowS) (H : Heap) (locs : List Loc) (X : RW D (wC ar ag ca (va_up P r Rz_106) G ++ xs) s.heap H locs) (ls : Array Slot) (hl : lv_has ls 4 [(0, .ref (ar r 0)), (1, .int x6), (2, .int z106_2)]) (hw : wloop (fun t => l_X3_settle_106 t.1 t.2) k (z106_2, Rz_106) = some e_1), W p l e rm_X3_settle s m args below meth c H locs 0 0 Q (F0 m 106 ls []) := by
      intro k
      induction k with
      | zero => intro z106_2 Rz_106 H locs X ls hl hw; exact (wloop_0 hw).elim
      | succ k ih1 =>
        intro z106_2 Rz_106 H locs X ls hl hw
        obtain ⟨x_1, h1, hx1⟩ := wloop_out hw
        have h1 : l_X3_settle_106 z106_2 Rz_106 = some x_1 := h1
        unfold l_X3_settle_106 at h1
        refine lv_iload_n hx hb dX3_settle_106 rfl (lv_at hl 2 rfl) ?_
        refine lv_aload_n hx hb dX3_settle_107 rfl (lv_at hl 0 rfl) ?_
        refine g_rowi K X hr (upR_1 _) 2 (by decide) q149 dX3_settle_108 ?_
        refine lv_icmp_ge (tgt := 146) hx hb dX3_settle_111 (by decide) (fun c7 => ?_) (fun c7 => ?_)
        · have h1 := if_t c7 h1
          have q1 := wl_r h1 hx1
          exact J146 x6 Rz_106 H locs X ls (lv_sub hl [1] rfl) (by rw [q1] at h0; exact h0)
        · have h1 := if_f c7 h1
          refine lv_aload_n hx hb dX3_settle_114 rfl (lv_at hl 0 rfl) ?_
          refine lv_iload_n hx hb dX3_settle_115 rfl (lv_at hl 2 rfl) ?_
          obtain ⟨x8, ex8, h1⟩ := lt_out h1
          have kx8 := m_X3_tubeAt l D ca ar ag P r Rz_106 G xs hr z106_2 x8 ex8.symm H.size
          refine w_callV0 K X wC_fstx kx8 hl.1 1 q574 q575 q576 q17 q577 hv_X3_tubeAt ⟨⟨Nat.le_of_ble_eq_true rfl, Nat.le_of_ble_eq_true rfl⟩, rfl, rfl⟩ (pl_rowo hr) rfl rfl rfl rfl (Nat.le_of_ble_eq_true rfl) dX3_settle_116 ⟨Nat.le_of_ble_eq_true rfl, Nat.le_of_ble_eq_true rfl⟩ rfl (fun H locs X => ?_)
          obtain ⟨j9, ej9, h1⟩ := lt_out h1
          rw [← ej9]
          have hj9 : j9 < 13 := by rw [ej9]; exact lt_X3_tubeAt ex8
          refine lv_astore_n (lv' := [(3, .ref (ar r (j9 + 5))), (0, .ref (ar r 0)), (1, .int x6), (2, .int z106_2)]) hx hb dX3_settle_119 rfl hl (by decide) rfl (fun ls hl => ?_)
          refine lv_aload_n hx hb dX3_settle_120 rfl (lv_at hl 0 rfl) ?_
          refine lv_aload_n hx hb dX3_settle_121 rfl (lv_at hl 0 rfl) ?_
          refine lv_aload_n hx hb dX3_settle_122 rfl (lv_at hl 1 rfl) ?_
          refine lv_aload_n hx hb dX3_settle_123 rfl (lv_at hl 0 rfl) ?_
          refine g_tube K X hr hj9 (upR_1 _) 0 (by decide) q99 dX3_settle_124 ?_
          obtain ⟨x10, ex10, h1⟩ := lt_out h1
          have kx10 := m_X3_legAt l D ca ar ag P r Rz_106 G xs hr (Rz_106.1 (j9 + 5) 0) x10 ex10.symm H.size
          refine w_callV0 K X wC_fstx kx10 hl.1 1 q618 q555 q556 q17 q557 hv_X3_legAt ⟨⟨Nat.le_of_ble_eq_true rfl, Nat.le_of_ble_eq_true rfl⟩, rfl, rfl⟩ (pl_rowo hr) rfl rfl rfl rfl (Nat.le_of_ble_eq_true rfl) dX3_settle_127 ⟨Nat.le_of_ble_eq_true rfl, Nat.le_of_ble_eq_true rfl⟩ rfl (fun H locs X => ?_)
          obtain ⟨j11, ej11, h1⟩ := lt_out h1
          rw [← ej11]
          have hj11 : j11 < 2 := by rw [ej11]; exact lt_X3_legAt ex10
          refine g_legl K X hr hj11 (upR_2 _) 6 (by decide) q74 dX3_settle_130 ?_
          obtain ⟨x12, ex12, h1⟩ := lt_out h1
          have kx12 := mR_X6_columnAt l D ca ar ag P r j9 Rz_106 G xs hr hj9 (Rz_106.2 (j11 + 2) 6) x12 ex12.symm H.size
          refine w_callV0 K X wC_fstx kx12 hl.1 1 q647 q648 q649 q19 q650 hv_X6_columnAt ⟨⟨Nat.le_of_ble_eq_true rfl, Nat.le_of_ble_eq_true rfl⟩, rfl, rfl⟩ (pl_tube hr hj9) rfl rfl rfl rfl (Nat.le_of_ble_eq_true rfl) dX3_settle_133 ⟨Nat.le_of_ble_eq_true rfl, Nat.le_of_ble_eq_true rfl⟩ rfl (fun H locs X => ?_)
          refine lv_l2i hx hb dX3_settle_136 rfl ?_
          obtain ⟨Rv13, eRv13, h1⟩ := lt_out h1
          refine p_tube K X hr hj9 9 (by decide) (upR_si eRv13) q121 dX3_settle_137 (fun H locs X => ?_)
          obtain ⟨x14, ex14, h1⟩ := lt_out h1
          refine lv_iinc (v := x14) (lv' := [(2, .int x14), (3, .ref (ar r (j9 + 5))), (0, .ref (ar r 0)), (1, .int x6)]) hx hb dX3_settle_140 hl (k := 3) rfl (by rw [ex14]; rfl) (by decide) rfl (fun ls hl => ?_)
          refine lv_goto (tgt := 106) hx hb dX3_settle_143 (by decide) ?_
          exact ih1 x14 Rv13 H locs X ls (lv_sub hl [2, 3, 0] rfl) (wl_l h1 hx1)
    exact K106 n 0 Rv5 H locs X ls (lv_sub hl [2, 1, 0] rfl) he1
  refine lv_iconst (v := 0) hx hb dX3_settle_0 (by decide) ?_
  refine lv_istore_n (lv' := [(1, .int 0), (0, .ref (ar r 0))]) hx hb dX3_settle_1 rfl hl (by decide) rfl (fun ls hl => ?_)
  obtain ⟨e_1, he1, h0⟩ := ob_out h0
  have K2 : ∀ (k : Nat) (z2_1 : Int32) (Rz_2 : RowS) (H : Heap) (locs : List Loc) (X : RW D (wC ar ag ca (va_up P r Rz_2) G ++ xs) s.heap H locs) (ls : Array Slot) (hl : lv_has ls 4 [(0, .ref (ar r 0)), (1, .int z2_1)]) (hw : wloop (fun t => l_X3_settle_2 t.1 t.2) k (z2_1, Rz_2) = some e_1), W p l e rm_X3_settle s m args below meth c H locs 0 0 Q (F0 m 2 ls []) := by
    intro k
    induction k with
    | zero => intro z2_1 Rz_2 H locs X ls hl hw; exact (wloop_0 hw).elim
    | succ k ih1 =>
      intro z2_1 Rz_2 H locs X ls hl hw
      obtain ⟨x_1, h1, hx1⟩ := wloop_out hw
      have h1 : l_X3_settle_2 z2_1 Rz_2 = some x_1 := h1
      unfold l_X3_settle_2 at h1
      have J83 : ∀ (y83_l1 : Int32) (y83_s0 : Nat) (y83_s1 : Int32) (R_83 : RowS) (H : Heap) (locs : List Loc) (X : RW D (wC ar ag ca (va_up P r R_83) G ++ xs) s.heap H locs) (ls : Array Slot) (hl : lv_has ls 4 [(0, .ref (ar r 0)), (1, .int y83_l1)]) (hy83_s0 : y83_s0 < 13) (h1 : b_X3_settle_83 y83_l1 y83_s0 y83_s1 R_83 = some x_1), W p l e rm_X3_settle s m args below meth c H locs 0 0 Q (F0 m 83 ls [.int y83_s1, .ref (ar r (y83_s0 + 5))]) := by
        intro y83_l1 y83_s0 y83_s1 R_83 H locs X ls hl hy83_s0 h1
        unfold b_X3_settle_83 at h1
        obtain ⟨Rv23, eRv23, h1⟩ := lt_out h1
        refine p_tube K X hr hy83_s0 8 (by decide) (upR_si eRv23) q119 dX3_settle_83 (fun H locs X => ?_)
        obtain ⟨x24, ex24, h1⟩ := lt_out h1
        refine lv_iinc (v := x24) (lv' := [(1, .int x24), (0, .ref (ar r 0))]) hx hb dX3_settle_86 hl (k := 1) rfl (by rw [ex24]; rfl) (by decide) rfl (fun ls hl => ?_)
        refine lv_goto (tgt := 2) hx hb dX3_settle_89 (by decide) ?_
        exact ih1 x24 Rv23 H locs X ls (lv_sub hl [1, 0] rfl) (wl_l h1 hx1)
      have J59 : ∀ (y59_l1 : Int32) (y59_l2 : Nat) (y59_l3 : Nat) (y59_s0 : Nat) (y59_s1 : Int32) (R_59 : RowS) (H : Heap) (locs : List Loc) (X : RW D (wC ar ag ca (va_up P r R_59) G ++ xs) s.heap H locs) (ls : Array Slot) (hl : lv_has ls 4 [(0, .ref (ar r 0)), (1, .int y59_l1), (2, .ref (ar r (y59_l2 + 5))), (3, .ref (ar r (y59_l3 + 2)))]) (hy59_l2 : y59_l2 < 13) (hy59_l3 : y59_l3 < 2) (hy59_s0 : y59_s0 < 13) (h1 : b_X3_settle_59 y59_l1 y59_l2 y59_l3 y59_s0 y59_s1 R_59 = some x_1), W p l e rm_X3_settle s m args below meth c H locs 0 0 Q (F0 m 59 ls [.int y59_s1, .ref (ar r (y59_s0 + 5))]) := by
        intro y59_l1 y59_l2 y59_l3 y59_s0 y59_s1 R_59 H locs X ls hl hy59_l2 hy59_l3 hy59_s0 h1
        unfold b_X3_settle_59 at h1
        obtain ⟨Rv21, eRv21, h1⟩ := lt_out h1
        refine p_tube K X hr hy59_s0 7 (by decide) (upR_si eRv21) q117 dX3_settle_59 (fun H locs X => ?_)
        refine lv_aload_n hx hb dX3_settle_62 rfl (lv_at hl 2 rfl) ?_
        refine lv_aload_n hx hb dX3_settle_63 rfl (lv_at hl 2 rfl) ?_
        refine g_tube K X hr hy59_l2 (upR_1 _) 2 (by decide) q103 dX3_settle_64 ?_
        refine lv_if_ne (tgt := 74) hx hb dX3_settle_67 (by decide) (fun c22 => ?_) (fun c22 => ?_)
        · have h1 := if_f c22 h1
          refine lv_aload_n hx hb dX3_settle_74 rfl (lv_at hl 3 rfl) ?_
          refine g_legi K X hr hy59_l3 (upR_1 _) 2 (by decide) q63 dX3_settle_75 ?_
          refine lv_aload_n hx hb dX3_settle_78 rfl (lv_at hl 2 rfl) ?_
          refine g_tube K X hr hy59_l2 (upR_1 _) 2 (by decide) q103 dX3_settle_79 ?_
          refine lv_idiv hx hb dX3_settle_82 c22 ?_
          exact J83 y59_l1 y59_l2 ((Rv21.1 (y59_l3 + 2) 2) / (Rv21.1 (y59_l2 + 5) 2)) Rv21 H locs X ls (lv_sub hl [0, 1] rfl) hy59_l2 h1
        · have h1 := if_t c22 h1
          refine lv_iconst (v := 0) hx hb dX3_settle_70 (by decide) ?_
          refine lv_goto (tgt := 83) hx hb dX3_settle_71 (by decide) ?_
          exact J83 y59_l1 y59_l2 0 Rv21 H locs X ls (lv_sub hl [0, 1] rfl) hy59_l2 h1
      refine lv_iload_n hx hb dX3_settle_2 rfl (lv_at hl 1 rfl) ?_
      refine lv_aload_n hx hb dX3_settle_3 rfl (lv_at hl 0 rfl) ?_
      refine g_rowi K X hr (upR_1 _) 2 (by decide) q149 dX3_settle_4 ?_
      refine lv_icmp_ge (tgt := 92) hx hb dX3_settle_7 (by decide) (fun c1 => ?_) (fun c1 => ?_)
      · have h1 := if_t c1 h1
        have q1 := wl_r h1 hx1
        exact J92 Rz_2 H locs X ls (lv_sub hl [0] rfl) (by rw [q1] at h0; exact h0)
      · have h1 := if_f c1 h1
        refine lv_aload_n hx hb dX3_settle_10 rfl (lv_at hl 0 rfl) ?_
        refine lv_iload_n hx hb dX3_settle_11 rfl (lv_at hl 1 rfl) ?_
        obtain ⟨x15, ex15, h1⟩ := lt_out h1
        have kx15 := m_X3_tubeAt l D ca ar ag P r Rz_2 G xs hr z2_1 x15 ex15.symm H.size
        refine w_callV0 K X wC_fstx kx15 hl.1 1 q574 q575 q576 q17 q577 hv_X3_tubeAt ⟨⟨Nat.le_of_ble_eq_true rfl, Nat.le_of_ble_eq_true rfl⟩, rfl, rfl⟩ (pl_rowo hr) rfl rfl rfl rfl (Nat.le_of_ble_eq_true rfl) dX3_settle_12 ⟨Nat.le_of_ble_eq_true rfl, Nat.le_of_ble_eq_true rfl⟩ rfl (fun H locs X => ?_)
        obtain ⟨j16, ej16, h1⟩ := lt_out h1
        rw [← ej16]
        have hj16 : j16 < 13 := by rw [ej16]; exact lt_X3_tubeAt ex15
        refine lv_astore_n (lv' := [(2, .ref (ar r (j16 + 5))), (0, .ref (ar r 0)), (1, .int z2_1)]) hx hb dX3_settle_15 rfl hl (by decide) rfl (fun ls hl => ?_)
        refine lv_aload_n hx hb dX3_settle_16 rfl (lv_at hl 1 rfl) ?_
        refine lv_aload_n hx hb dX3_settle_17 rfl (lv_at hl 0 rfl) ?_
        refine g_tube K X hr hj16 (upR_1 _) 0 (by decide) q99 dX3_settle_18 ?_
        obtain ⟨x17, ex17, h1⟩ := lt_out h1
        have kx17 := m_X3_legAt l D ca ar ag P r Rz_2 G xs hr (Rz_2.1 (j16 + 5) 0) x17 ex17.symm H.size
        refine w_callV0 K X wC_fstx kx17 hl.1 1 q618 q555 q556 q17 q557 hv_X3_legAt ⟨⟨Nat.le_of_ble_eq_true rfl, Nat.le_of_ble_eq_true rfl⟩, rfl, rfl⟩ (pl_rowo hr) rfl rfl rfl rfl (Nat.le_of_ble_eq_true rfl) dX3_settle_21 ⟨Nat.le_of_ble_eq_true rfl, Nat.le_of_ble_eq_true rfl⟩ rfl (fun H locs X => ?_)
        obtain ⟨j18, ej18, h1⟩ := lt_out h1
        rw [← ej18]
        have hj18 : j18 < 2 := by rw [ej18]; exact lt_X3_legAt ex17
        refine lv_astore_n (lv' := [(3, .ref (ar r (j18 + 2))), (2, .ref (ar r (j16 + 5))), (0, .ref (ar r 0)), (1, .int z2_1)]) hx hb dX3_settle_24 rfl hl (by decide) rfl (fun ls hl => ?_)
        refine lv_aload_n hx hb dX3_settle_25 rfl (lv_at hl 1 rfl) ?_
        refine lv_aload_n hx hb dX3_settle_26 rfl (lv_at hl 0 rfl) ?_
        refine g_legi K X hr hj18 (upR_1 _) 0 (by decide) q57 dX3_settle_27 ?_
        refine lv_if_ne (tgt := 37) hx hb dX3_settle_30 (by decide) (fun c19 => ?_) (fun c19 => ?_)
        · have h1 := if_f c19 h1
          refine lv_aload_n hx hb dX3_settle_37 rfl (lv_at hl 2 rfl) ?_
          refine g_rowi K X hr (upR_1 _) 1 (by decide) q147 dX3_settle_38 ?_
          refine lv_aload_n hx hb dX3_settle_41 rfl (lv_at hl 2 rfl) ?_
          refine lv_aload_n hx hb dX3_settle_42 rfl (lv_at hl 1 rfl) ?_
          refine g_tube K X hr hj16 (upR_1 _) 1 (by decide) q101 dX3_settle_43 ?_
          obtain ⟨x20, ex20, h1⟩ := lt_out h1
          have kx20 := m_X3_pressureAt l D ca ar ag P r Rz_2 G xs hr (Rz_2.1 (j16 + 5) 1) x20 ex20.symm H.size
          refine w_callV0 K X wC_fstx kx20 hl.1 1 q600 q601 q602 q17 q603 hv_X3_pressureAt ⟨⟨Nat.le_of_ble_eq_true rfl, Nat.le_of_ble_eq_true rfl⟩, rfl, rfl⟩ (pl_rowo hr) rfl rfl rfl rfl (Nat.le_of_ble_eq_true rfl) dX3_settle_46 ⟨Nat.le_of_ble_eq_true rfl, Nat.le_of_ble_eq_true rfl⟩ rfl (fun H locs X => ?_)
          refine lv_isub hx hb dX3_settle_49 ?_
          refine lv_sipush (v := 1000) hx hb dX3_settle_50 (by decide) ?_
          refine lv_imul hx hb dX3_settle_53 ?_
          refine lv_aload_n hx hb dX3_settle_54 rfl (lv_at hl 0 rfl) ?_
          refine g_legi K X hr hj18 (upR_1 _) 0 (by decide) q57 dX3_settle_55 ?_
          refine lv_idiv hx hb dX3_settle_58 c19 ?_
          exact J59 z2_1 j16 j18 j16 ((((Rz_2.1 0 1) - x20) * 1000) / (Rz_2.1 (j18 + 2) 0)) Rz_2 H locs X ls (lv_sub hl [2, 3, 1, 0] rfl) hj16 hj18 hj16 h1
        · have h1 := if_t c19 h1
          refine lv_iconst (v := 0) hx hb dX3_settle_33 (by decide) ?_
          refine lv_goto (tgt := 59) hx hb dX3_settle_34 (by decide) ?_
          exact J59 z2_1 j16 j18 j16 0 Rz_2 H locs X ls (lv_sub hl [2, 3, 1, 0] rfl) hj16 hj18 hj16 h1
  exact K2 n 0 R H locs X ls (lv_sub hl [1, 0] rfl) he1
theorem mC_X3_settle (l : Launch) (D : va_G) (ca : Nat → ClassId) (ar : Nat → Nat → Nat) (ag : Nat → Nat) (n : Nat) (P : RowsS) (r : Nat) (G : GlbS) (xs : va_W) (hr : r < 13) (res : Int32) (R' : RowS) (h0 : f_X3_settle n (P r) = some (res, R')) (sz : Nat) : Met l yX3_settle (ws_ yX3_settle cX3_settle 4 (some .int)) rm_X3_settle (PCw D ca (wC ar ag ca P G ++ xs) sz [.ref (ar r 0)]) (QMw D (wC ar ag ca P G ++ xs) (wC ar ag ca (va_up P r R') G ++ xs) sz (some (.int res))) 0 0 (AL (wC ar ag ca P G ++ xs) sz) := by
  have k := m_X3_settle l D ca ar ag n P r (P r) G xs hr  res R' h0 sz
  simpa only [up_self] using k
