-- X8_meanReading
def b_X8_meanReading_46 (n : Nat) (y46_l1 : Int64) (M_46 : RowS) : Option (UInt64 × RowS) :=
  ob (f_X8_many n M_46 0) fun x4 =>
  if x4 = 0 then
    some (FP.dconst0, M_46)
  else
    if (FP.ddiv (FP.l2d y46_l1) (FP.i2d x4)) &&& 0x7fffffffffffffff ≤ 0x7ff0000000000000 then
      some ((FP.ddiv (FP.l2d y46_l1) (FP.i2d x4)), M_46)
    else none
def b_X8_meanReading_38  (y38_l3 : Int32) (y38_s0 : Int64) (y38_s1 : Int64) : Option ((Int64 × Int32) ⊕ Int64) :=
  lt (y38_s0 + y38_s1) fun x9 =>
  lt (y38_l3 + 1) fun x10 =>
  some (.inl (x9, x10))
def l_X8_meanReading_9 (n : Nat) (Mv1 : RowS) (z9_1 : Int64) (z9_3 : Int32) : Option ((Int64 × Int32) ⊕ Int64) :=
  if 0 ≤ (2 : Int32).toInt ∧ (2 : Int32).toInt < 102 then
    if (Mv1.1 1 (2 : Int32).toNatClampNeg) ≤ z9_3 then
      some (.inr z9_1)
    else
      ob (f_X8_isWhole Mv1 z9_3) fun x7 =>
      if x7 = true then
        ob (f_X8_readingOf n Mv1 z9_3) fun x11 =>
        b_X8_meanReading_38 z9_3 z9_1 x11.toInt64
      else
        b_X8_meanReading_38 z9_3 z9_1 0
  else none
def f_X8_meanReading (n : Nat) (M : RowS) : Option (UInt64 × RowS) :=
  lt (si M 0 0 0) fun Mv1 =>
  ob (wloop (fun t => l_X8_meanReading_9 n Mv1 t.1 t.2) n (0, 0)) (fun t => b_X8_meanReading_46 n t Mv1)
abbrev rm_X8_meanReading : Room := { frames := 9, cells := 0, slots := 0, locals := 211 }
set_option maxRecDepth 100000 in
set_option maxHeartbeats 4000000 in
theorem m_X8_meanReading (l : Launch) (D : va_G) (ca : Nat → ClassId) (am : Nat → Nat) (n : Nat) (M : RowS) (xs : va_W) (res : UInt64) (M' : RowS) (h0 : f_X8_meanReading n M = some (res, M')) (sz : Nat) : Met l yX8_meanReading (ws_ yX8_meanReading cX8_meanReading 4 (some .double)) rm_X8_meanReading (PCw D ca (wM am ca M ++ xs) sz [.ref (am 0)]) (QMw D (wM am ca M ++ xs) (wM am ca (M') ++ xs) sz (some (.double res))) 0 0 (AL (wM am ca M ++ xs) sz) := by
  refine met_of (by decide) (Nat.le_of_ble_eq_true rfl) (fun p e s m args below meth c K hr0 X hsz ls hl => ?_)
  have K : MC D ca p s m args meth c cX8_meanReading 4 RX8 := K
  have hx := K.1
  have hb := K.2.1
  have hl : lv_has ls 4 [(0, .ref (am 0))] := hl
  generalize hQ : MQ below _ args s 0 0 _ = Q
  unfold f_X8_meanReading at h0
  suffices Z : ∀ (H : Heap) (locs : List Loc) (X : RW D (wM am ca M ++ xs) s.heap H locs), W p l e rm_X8_meanReading s m args below meth c H locs 0 0 Q (F0 m 0 ls []) from Z _ _ X
  intro H locs X
  have J46 : ∀ (y46_l1 : Int64) (M_46 : RowS) (H : Heap) (locs : List Loc) (X : RW D (wM am ca M_46 ++ xs) s.heap H locs) (ls : Array Slot) (hl : lv_has ls 4 [(0, .ref (am 0)), (1, .long y46_l1)]) (h0 : b_X8_meanReading_46 n y46_l1 M_46 = some (res, M')), W p l e rm_X8_meanReading s m args below meth c H locs 0 0 Q (F0 m 46 ls []) := by
    intro y46_l1 M_46 H locs X ls hl h0
    unfold b_X8_meanReading_46 at h0
    refine lv_aload_n hx hb dX8_meanReading_46 rfl (lv_at hl 0 rfl) ?_
    refine lv_iconst (v := 0) hx hb dX8_meanReading_47 (by decide) ?_
    obtain ⟨x4, ex4, h0⟩ := ob_out h0
    have kx4 := m_X8_many l D ca am n M_46 xs 0 x4 ex4 H.size
    refine w_callV0 K X wM_fstx kx4 hl.1 1 q1672 q1674 q56 q97 q1675 hv_X8_many ⟨⟨Nat.le_of_ble_eq_true rfl, Nat.le_of_ble_eq_true rfl⟩, rfl, rfl⟩ pl_modo rfl rfl rfl rfl (Nat.le_of_ble_eq_true rfl) dX8_meanReading_48 ⟨Nat.le_of_ble_eq_true rfl, Nat.le_of_ble_eq_true rfl⟩ rfl (fun H locs X => ?_)
    refine lv_istore_n (lv' := [(3, .int x4), (0, .ref (am 0)), (1, .long y46_l1)]) hx hb dX8_meanReading_51 rfl hl (by decide) rfl (fun ls hl => ?_)
    refine lv_iload_n hx hb dX8_meanReading_52 rfl (lv_at hl 0 rfl) ?_
    refine lv_if_ne (tgt := 60) hx hb dX8_meanReading_53 (by decide) (fun c5 => ?_) (fun c5 => ?_)
    · have h0 := if_f c5 h0
      refine lv_lload_n hx hb dX8_meanReading_60 rfl (lv_at hl 2 rfl) ?_
      refine lv_l2d hx hb dX8_meanReading_61 ?_
      refine lv_iload_n hx hb dX8_meanReading_62 rfl (lv_at hl 0 rfl) ?_
      refine lv_i2d hx hb dX8_meanReading_63 ?_
      obtain ⟨c6, h0⟩ := if_o h0
      refine lv_ddiv hx hb dX8_meanReading_64 c6 ?_
      have h0 := Option.some.inj h0
      obtain ⟨q_0, q_1⟩ := Prod.mk.inj h0
      subst q_0
      subst q_1
      subst hQ
      exact w_dret K hr0 X wM_fstx hsz dX8_meanReading_65
    · have h0 := if_t c5 h0
      refine lv_dconst0 hx hb dX8_meanReading_56 ?_
      refine lv_goto (tgt := 65) hx hb dX8_meanReading_57 (by decide) ?_
      have h0 := Option.some.inj h0
      obtain ⟨q_0, q_1⟩ := Prod.mk.inj h0
      subst q_0
      subst q_1
      subst hQ
      exact w_dret K hr0 X wM_fstx hsz dX8_meanReading_65
  refine lv_aload_n hx hb dX8_meanReading_0 rfl (lv_at hl 0 rfl) ?_
  refine lv_iconst (v := 0) hx hb dX8_meanReading_1 (by decide) ?_
  obtain ⟨Mv1, eMv1, h0⟩ := lt_out h0
  refine p_modi (ty := .int) K X 0 (by decide) (fun _ _ => rfl) (by decide +kernel) ⟨rfl, rfl⟩ eMv1 q1399 dX8_meanReading_2 (fun H locs X => ?_)
  refine lv_lconst (v := 0) hx hb dX8_meanReading_5 (by decide) ?_
  refine lv_lstore_n (lv' := [(1, .long 0), (0, .ref (am 0))]) hx hb dX8_meanReading_6 rfl hl (by decide) rfl (fun ls hl => ?_)
  refine lv_iconst (v := 0) hx hb dX8_meanReading_7 (by decide) ?_
  refine lv_istore_n (lv' := [(3, .int 0), (1, .long 0), (0, .ref (am 0))]) hx hb dX8_meanReading_8 rfl hl (by decide) rfl (fun ls hl => ?_)
  obtain ⟨e_1, he1, h0⟩ := ob_out h0
  have K9 : ∀ (k : Nat) (z9_1 : Int64) (z9_3 : Int32) (H : Heap) (locs : List Loc) (X : RW D (wM am ca Mv1 ++ xs) s.heap H locs) (ls : Array Slot) (hl : lv_has ls 4 [(0, .ref (am 0)), (1, .long z9_1), (3, .int z9_3)]) (hw : wloop (fun t => l_X8_meanReading_9 n Mv1 t.1 t.2) k (z9_1, z9_3) = some e_1), W p l e rm_X8_meanReading s m args below meth c H locs 0 0 Q (F0 m 9 ls []) := by
    intro k
    induction k with
    | zero => intro z9_1 z9_3 H locs X ls hl hw; exact (wloop_0 hw).elim
    | succ k ih1 =>
      intro z9_1 z9_3 H locs X ls hl hw
      obtain ⟨x_1, h1, hx1⟩ := wloop_out hw
      have h1 : l_X8_meanReading_9 n Mv1 z9_1 z9_3 = some x_1 := h1
      unfold l_X8_meanReading_9 at h1
      have J38 : ∀ (y38_l3 : Int32) (y38_s0 : Int64) (y38_s1 : Int64) (H : Heap) (locs : List Loc) (X : RW D (wM am ca Mv1 ++ xs) s.heap H locs) (ls : Array Slot) (hl : lv_has ls 4 [(0, .ref (am 0)), (3, .int y38_l3)]) (h1 : b_X8_meanReading_38 y38_l3 y38_s0 y38_s1 = some x_1), W p l e rm_X8_meanReading s m args below meth c H locs 0 0 Q (F0 m 38 ls [.long y38_s1, .long y38_s0]) := by
        intro y38_l3 y38_s0 y38_s1 H locs X ls hl h1
        unfold b_X8_meanReading_38 at h1
        refine lv_ladd hx hb dX8_meanReading_38 ?_
        obtain ⟨x9, ex9, h1⟩ := lt_out h1
        refine w_long ex9 ?_
        refine lv_lstore_n (lv' := [(1, .long x9), (0, .ref (am 0)), (3, .int y38_l3)]) hx hb dX8_meanReading_39 rfl hl (by decide) rfl (fun ls hl => ?_)
        obtain ⟨x10, ex10, h1⟩ := lt_out h1
        refine lv_iinc (v := x10) (lv' := [(3, .int x10), (1, .long x9), (0, .ref (am 0))]) hx hb dX8_meanReading_40 hl (k := 2) rfl (by rw [ex10]; rfl) (by decide) rfl (fun ls hl => ?_)
        refine lv_goto (tgt := 9) hx hb dX8_meanReading_43 (by decide) ?_
        exact ih1 x9 x10 H locs X ls (lv_sub hl [2, 1, 0] rfl) (wl_l h1 hx1)
      refine lv_iload_n hx hb dX8_meanReading_9 rfl (lv_at hl 2 rfl) ?_
      refine lv_aload_n hx hb dX8_meanReading_10 rfl (lv_at hl 0 rfl) ?_
      refine g_modr K X 1 (by decide) (fun _ _ => rfl) q1400 dX8_meanReading_11 ?_
      refine lv_iconst (v := 2) hx hb dX8_meanReading_14 (by decide) ?_
      obtain ⟨c2, h1⟩ := if_o h1
      refine a_modi K X 1 1 102 rfl rfl (inb_vp c2) dX8_meanReading_15 ?_
      refine lv_icmp_ge (tgt := 46) hx hb dX8_meanReading_16 (by decide) (fun c3 => ?_) (fun c3 => ?_)
      · have h1 := if_t c3 h1
        have q1 := wl_r h1 hx1
        exact J46 z9_1 Mv1 H locs X ls (lv_sub hl [0, 1] rfl) (by rw [q1] at h0; exact h0)
      · have h1 := if_f c3 h1
        refine lv_lload_n hx hb dX8_meanReading_19 rfl (lv_at hl 1 rfl) ?_
        refine lv_aload_n hx hb dX8_meanReading_20 rfl (lv_at hl 0 rfl) ?_
        refine lv_iload_n hx hb dX8_meanReading_21 rfl (lv_at hl 2 rfl) ?_
        obtain ⟨x7, ex7, h1⟩ := ob_out h1
        have kx7 := m_X8_isWhole l D ca am Mv1 xs z9_3 x7 ex7 H.size
        refine w_callV0 K X wM_fstx kx7 hl.1 1 q1655 q1657 q52 q97 q1658 hv_X8_isWhole ⟨⟨Nat.le_of_ble_eq_true rfl, Nat.le_of_ble_eq_true rfl⟩, rfl, rfl⟩ pl_modo rfl rfl rfl rfl (Nat.le_of_ble_eq_true rfl) dX8_meanReading_22 ⟨Nat.le_of_ble_eq_true rfl, Nat.le_of_ble_eq_true rfl⟩ rfl (fun H locs X => ?_)
        refine w_zeq (tgt := 37) K dX8_meanReading_25 (by decide) (fun c8 => ?_) (fun c8 => ?_)
        · have h1 := if_f c8 h1
          refine lv_lconst (v := 0) hx hb dX8_meanReading_37 (by decide) ?_
          exact J38 z9_3 z9_1 0 H locs X ls (lv_sub hl [0, 2] rfl) h1
        · have h1 := if_t c8 h1
          refine lv_aload_n hx hb dX8_meanReading_28 rfl (lv_at hl 0 rfl) ?_
          refine lv_iload_n hx hb dX8_meanReading_29 rfl (lv_at hl 2 rfl) ?_
          obtain ⟨x11, ex11, h1⟩ := ob_out h1
          have kx11 := m_X8_readingOf l D ca am n Mv1 xs z9_3 x11 ex11 H.size
          refine w_callV0 K X wM_fstx kx11 hl.1 1 q1723 q1725 q62 q97 q1726 hv_X8_readingOf ⟨⟨Nat.le_of_ble_eq_true rfl, Nat.le_of_ble_eq_true rfl⟩, rfl, rfl⟩ pl_modo rfl rfl rfl rfl (Nat.le_of_ble_eq_true rfl) dX8_meanReading_30 ⟨Nat.le_of_ble_eq_true rfl, Nat.le_of_ble_eq_true rfl⟩ rfl (fun H locs X => ?_)
          refine lv_i2l hx hb dX8_meanReading_33 rfl ?_
          refine lv_goto (tgt := 38) hx hb dX8_meanReading_34 (by decide) ?_
          exact J38 z9_3 z9_1 x11.toInt64 H locs X ls (lv_sub hl [0, 2] rfl) h1
  exact K9 n 0 0 H locs X ls (lv_sub hl [2, 1, 0] rfl) he1
-- X8_wholeShare
def f_X8_wholeShare (n : Nat) (M : RowS) : Option (UInt32 × RowS) :=
  lt (si M 0 0 0) fun Mv1 =>
  if 0 ≤ (2 : Int32).toInt ∧ (2 : Int32).toInt < 102 then
    if (Mv1.1 1 (2 : Int32).toNatClampNeg) = 0 then
      some (FP.fconst0, Mv1)
    else
      ob (f_X8_many n Mv1 0) fun x4 =>
      if 0 ≤ (2 : Int32).toInt ∧ (2 : Int32).toInt < 102 then
        if (FP.fdiv (FP.i2f x4) (FP.i2f (Mv1.1 1 (2 : Int32).toNatClampNeg))) &&& 0x7fffffff ≤ 0x7f800000 then
          some ((FP.fdiv (FP.i2f x4) (FP.i2f (Mv1.1 1 (2 : Int32).toNatClampNeg))), Mv1)
        else none
      else none
  else none
abbrev rm_X8_wholeShare : Room := { frames := 3, cells := 0, slots := 0, locals := 66 }
set_option maxRecDepth 100000 in
set_option maxHeartbeats 4000000 in
theorem m_X8_wholeShare (l : Launch) (D : va_G) (ca : Nat → ClassId) (am : Nat → Nat) (n : Nat) (M : RowS) (xs : va_W) (res : UInt32) (M' : RowS) (h0 : f_X8_wholeShare n M = some (res, M')) (sz : Nat) : Met l yX8_wholeShare (ws_ yX8_wholeShare cX8_wholeShare 1 (some .float)) rm_X8_wholeShare (PCw D ca (wM am ca M ++ xs) sz [.ref (am 0)]) (QMw D (wM am ca M ++ xs) (wM am ca (M') ++ xs) sz (some (.float res))) 0 0 (AL (wM am ca M ++ xs) sz) := by
  refine met_of (by decide) (Nat.le_of_ble_eq_true rfl) (fun p e s m args below meth c K hr0 X hsz ls hl => ?_)
  have K : MC D ca p s m args meth c cX8_wholeShare 1 RX8 := K
  have hx := K.1
  have hb := K.2.1
  have hl : lv_has ls 1 [(0, .ref (am 0))] := hl
  generalize hQ : MQ below _ args s 0 0 _ = Q
  unfold f_X8_wholeShare at h0
  suffices Z : ∀ (H : Heap) (locs : List Loc) (X : RW D (wM am ca M ++ xs) s.heap H locs), W p l e rm_X8_wholeShare s m args below meth c H locs 0 0 Q (F0 m 0 ls []) from Z _ _ X
  intro H locs X
  refine lv_aload_n hx hb dX8_wholeShare_0 rfl (lv_at hl 0 rfl) ?_
  refine lv_iconst (v := 0) hx hb dX8_wholeShare_1 (by decide) ?_
  obtain ⟨Mv1, eMv1, h0⟩ := lt_out h0
  refine p_modi (ty := .int) K X 0 (by decide) (fun _ _ => rfl) (by decide +kernel) ⟨rfl, rfl⟩ eMv1 q1399 dX8_wholeShare_2 (fun H locs X => ?_)
  refine lv_aload_n hx hb dX8_wholeShare_5 rfl (lv_at hl 0 rfl) ?_
  refine g_modr K X 1 (by decide) (fun _ _ => rfl) q1400 dX8_wholeShare_6 ?_
  refine lv_iconst (v := 2) hx hb dX8_wholeShare_9 (by decide) ?_
  obtain ⟨c2, h0⟩ := if_o h0
  refine a_modi K X 1 1 102 rfl rfl (inb_vp c2) dX8_wholeShare_10 ?_
  refine lv_if_ne (tgt := 18) hx hb dX8_wholeShare_11 (by decide) (fun c3 => ?_) (fun c3 => ?_)
  · have h0 := if_f c3 h0
    refine lv_aload_n hx hb dX8_wholeShare_18 rfl (lv_at hl 0 rfl) ?_
    refine lv_iconst (v := 0) hx hb dX8_wholeShare_19 (by decide) ?_
    obtain ⟨x4, ex4, h0⟩ := ob_out h0
    have kx4 := m_X8_many l D ca am n Mv1 xs 0 x4 ex4 H.size
    refine w_callV0 K X wM_fstx kx4 hl.1 1 q1672 q1674 q56 q97 q1675 hv_X8_many ⟨⟨Nat.le_of_ble_eq_true rfl, Nat.le_of_ble_eq_true rfl⟩, rfl, rfl⟩ pl_modo rfl rfl rfl rfl (Nat.le_of_ble_eq_true rfl) dX8_wholeShare_20 ⟨Nat.le_of_ble_eq_true rfl, Nat.le_of_ble_eq_true rfl⟩ rfl (fun H locs X => ?_)
    refine lv_i2f hx hb dX8_wholeShare_23 ?_
    refine lv_aload_n hx hb dX8_wholeShare_24 rfl (lv_at hl 0 rfl) ?_
    refine g_modr K X 1 (by decide) (fun _ _ => rfl) q1400 dX8_wholeShare_25 ?_
    refine lv_iconst (v := 2) hx hb dX8_wholeShare_28 (by decide) ?_
    obtain ⟨c5, h0⟩ := if_o h0
    refine a_modi K X 1 1 102 rfl rfl (inb_vp c5) dX8_wholeShare_29 ?_
    refine lv_i2f hx hb dX8_wholeShare_30 ?_
    obtain ⟨c6, h0⟩ := if_o h0
    refine lv_fdiv hx hb dX8_wholeShare_31 c6 ?_
    have h0 := Option.some.inj h0
    obtain ⟨q_0, q_1⟩ := Prod.mk.inj h0
    subst q_0
    subst q_1
    subst hQ
    exact w_fret K hr0 X wM_fstx hsz dX8_wholeShare_32
  · have h0 := if_t c3 h0
    refine lv_fconst0 hx hb dX8_wholeShare_14 ?_
    refine lv_goto (tgt := 32) hx hb dX8_wholeShare_15 (by decide) ?_
    have h0 := Option.some.inj h0
    obtain ⟨q_0, q_1⟩ := Prod.mk.inj h0
    subst q_0
    subst q_1
    subst hQ
    exact w_fret K hr0 X wM_fstx hsz dX8_wholeShare_32
