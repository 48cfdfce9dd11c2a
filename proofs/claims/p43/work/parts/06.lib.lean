-- J9_floorDiv_f86c9
def f_J9_floorDiv_f86c9 (a1 : Int64) (a2 : Int64) : Option Int64 :=
  if ¬ a2 = 0 then
    lt (a1 / a2) fun x2 =>
    if 0 ≤ (a1 ^^^ a2) then
      some x2
    else
      if (x2 * a2) = a1 then
        some x2
      else
        some (x2 - 1)
  else none
abbrev rm_J9_floorDiv_f86c9 : Room := { frames := 0, cells := 0, slots := 0, locals := 0 }
set_option maxRecDepth 100000 in
set_option maxHeartbeats 4000000 in
theorem m_J9_floorDiv_f86c9 (l : Launch) (D : va_G) (ca : Nat → ClassId) (ws : va_W) (a1 : Int64) (a2 : Int64) (res : Int64) (h0 : f_J9_floorDiv_f86c9 a1 a2 = some res) (sz : Nat) : Met l yJ9_floorDiv_f86c9 (ws_ yJ9_floorDiv_f86c9 cJ9_floorDiv_f86c9 6 (some .long)) rm_J9_floorDiv_f86c9 (PCw D ca (ws) sz [.long a1, .long a2]) (QMw D (ws) (ws) sz (some (.long res))) 0 0 (AL (ws) sz) := by
  refine met_ofF (by decide +kernel) (Nat.le_of_ble_eq_true rfl) (fun p e s m args below meth c K hr0 X hsz ls hl => ?_)
  have K : MC D ca p s m args meth c cJ9_floorDiv_f86c9 6 RJ9 := K
  have hx := K.1
  have hb := K.2.1
  have hl : lv_has ls 6 [(0, .long a1), (2, .long a2)] := hl
  generalize hQ : MQ below _ args s 0 0 _ = Q
  unfold f_J9_floorDiv_f86c9 at h0
  suffices Z : ∀ (H : Heap) (locs : List Loc) (X : RW D (ws) s.heap H locs), W p l e rm_J9_floorDiv_f86c9 s m args below meth c H locs 0 0 Q (F0 m 0 ls []) from Z _ _ X
  intro H locs X
  refine lv_lload_n hx hb dJ9_floorDiv_f86c9_0 rfl (lv_at hl 0 rfl) ?_
  refine lv_lload_n hx hb dJ9_floorDiv_f86c9_1 rfl (lv_at hl 1 rfl) ?_
  obtain ⟨c1, h0⟩ := if_o h0
  refine lv_ldiv hx hb dJ9_floorDiv_f86c9_2 c1 ?_
  obtain ⟨x2, ex2, h0⟩ := lt_out h0
  refine w_long ex2 ?_
  refine lv_lstore (lv' := [(4, .long x2), (0, .long a1), (2, .long a2)]) hx hb dJ9_floorDiv_f86c9_3 hl (by decide) rfl (fun ls hl => ?_)
  refine lv_lload_n hx hb dJ9_floorDiv_f86c9_5 rfl (lv_at hl 1 rfl) ?_
  refine lv_lload_n hx hb dJ9_floorDiv_f86c9_6 rfl (lv_at hl 2 rfl) ?_
  refine lv_lxor hx hb dJ9_floorDiv_f86c9_7 ?_
  refine lv_lconst (v := 0) hx hb dJ9_floorDiv_f86c9_8 (by decide) ?_
  refine w_bge (tgt := 27) K dJ9_floorDiv_f86c9_9 dJ9_floorDiv_f86c9_10 (by decide) (fun c3 => ?_) (fun c3 => ?_)
  · have h0 := if_t c3 h0
    refine lv_lload hx hb dJ9_floorDiv_f86c9_27 (lv_at hl 0 rfl) ?_
    have h0 := Option.some.inj h0
    subst h0
    subst hQ
    exact w_lret K hr0 X rfl hsz dJ9_floorDiv_f86c9_29
  · have h0 := if_f c3 h0
    refine lv_lload hx hb dJ9_floorDiv_f86c9_13 (lv_at hl 0 rfl) ?_
    refine lv_lload_n hx hb dJ9_floorDiv_f86c9_15 rfl (lv_at hl 2 rfl) ?_
    refine lv_lmul hx hb dJ9_floorDiv_f86c9_16 ?_
    refine lv_lload_n hx hb dJ9_floorDiv_f86c9_17 rfl (lv_at hl 1 rfl) ?_
    refine w_beq (tgt := 27) K dJ9_floorDiv_f86c9_18 dJ9_floorDiv_f86c9_19 (by decide) (fun c4 => ?_) (fun c4 => ?_)
    · have h0 := if_t c4 h0
      refine lv_lload hx hb dJ9_floorDiv_f86c9_27 (lv_at hl 0 rfl) ?_
      have h0 := Option.some.inj h0
      subst h0
      subst hQ
      exact w_lret K hr0 X rfl hsz dJ9_floorDiv_f86c9_29
    · have h0 := if_f c4 h0
      refine lv_lload hx hb dJ9_floorDiv_f86c9_22 (lv_at hl 0 rfl) ?_
      refine lv_lconst (v := 1) hx hb dJ9_floorDiv_f86c9_24 (by decide) ?_
      refine lv_lsub hx hb dJ9_floorDiv_f86c9_25 ?_
      have h0 := Option.some.inj h0
      subst h0
      subst hQ
      exact w_lret K hr0 X rfl hsz dJ9_floorDiv_f86c9_26
-- J9_floorMod_7cf53
def f_J9_floorMod_7cf53 (a1 : Int32) (a2 : Int32) : Option Int32 :=
  if ¬ a2 = 0 then
    lt (a1 - a1 / a2 * a2) fun x2 =>
    if 0 ≤ (a1 ^^^ a2) then
      some x2
    else
      if x2 = 0 then
        some x2
      else
        some (x2 + a2)
  else none
abbrev rm_J9_floorMod_7cf53 : Room := { frames := 0, cells := 0, slots := 0, locals := 0 }
set_option maxRecDepth 100000 in
set_option maxHeartbeats 4000000 in
theorem m_J9_floorMod_7cf53 (l : Launch) (D : va_G) (ca : Nat → ClassId) (ws : va_W) (a1 : Int32) (a2 : Int32) (res : Int32) (h0 : f_J9_floorMod_7cf53 a1 a2 = some res) (sz : Nat) : Met l yJ9_floorMod_7cf53 (ws_ yJ9_floorMod_7cf53 cJ9_floorMod_7cf53 3 (some .int)) rm_J9_floorMod_7cf53 (PCw D ca (ws) sz [.int a1, .int a2]) (QMw D (ws) (ws) sz (some (.int res))) 0 0 (AL (ws) sz) := by
  refine met_ofF (by decide +kernel) (Nat.le_of_ble_eq_true rfl) (fun p e s m args below meth c K hr0 X hsz ls hl => ?_)
  have K : MC D ca p s m args meth c cJ9_floorMod_7cf53 3 RJ9 := K
  have hx := K.1
  have hb := K.2.1
  have hl : lv_has ls 3 [(0, .int a1), (1, .int a2)] := hl
  generalize hQ : MQ below _ args s 0 0 _ = Q
  unfold f_J9_floorMod_7cf53 at h0
  suffices Z : ∀ (H : Heap) (locs : List Loc) (X : RW D (ws) s.heap H locs), W p l e rm_J9_floorMod_7cf53 s m args below meth c H locs 0 0 Q (F0 m 0 ls []) from Z _ _ X
  intro H locs X
  refine lv_iload_n hx hb dJ9_floorMod_7cf53_0 rfl (lv_at hl 0 rfl) ?_
  refine lv_iload_n hx hb dJ9_floorMod_7cf53_1 rfl (lv_at hl 1 rfl) ?_
  obtain ⟨c1, h0⟩ := if_o h0
  refine lv_irem hx hb dJ9_floorMod_7cf53_2 c1 ?_
  obtain ⟨x2, ex2, h0⟩ := lt_out h0
  refine w_int ex2 ?_
  refine lv_istore_n (lv' := [(2, .int x2), (0, .int a1), (1, .int a2)]) hx hb dJ9_floorMod_7cf53_3 rfl hl (by decide) rfl (fun ls hl => ?_)
  refine lv_iload_n hx hb dJ9_floorMod_7cf53_4 rfl (lv_at hl 1 rfl) ?_
  refine lv_iload_n hx hb dJ9_floorMod_7cf53_5 rfl (lv_at hl 2 rfl) ?_
  refine lv_ixor hx hb dJ9_floorMod_7cf53_6 ?_
  refine lv_if_ge (tgt := 18) hx hb dJ9_floorMod_7cf53_7 (by decide) (fun c3 => ?_) (fun c3 => ?_)
  · have h0 := if_t c3 h0
    refine lv_iload_n hx hb dJ9_floorMod_7cf53_18 rfl (lv_at hl 0 rfl) ?_
    have h0 := Option.some.inj h0
    subst h0
    subst hQ
    exact w_iret K hr0 X rfl hsz dJ9_floorMod_7cf53_19
  · have h0 := if_f c3 h0
    refine lv_iload_n hx hb dJ9_floorMod_7cf53_10 rfl (lv_at hl 0 rfl) ?_
    refine lv_if_eq (tgt := 18) hx hb dJ9_floorMod_7cf53_11 (by decide) (fun c4 => ?_) (fun c4 => ?_)
    · have h0 := if_t c4 h0
      refine lv_iload_n hx hb dJ9_floorMod_7cf53_18 rfl (lv_at hl 0 rfl) ?_
      have h0 := Option.some.inj h0
      subst h0
      subst hQ
      exact w_iret K hr0 X rfl hsz dJ9_floorMod_7cf53_19
    · have h0 := if_f c4 h0
      refine lv_iload_n hx hb dJ9_floorMod_7cf53_14 rfl (lv_at hl 0 rfl) ?_
      refine lv_iload_n hx hb dJ9_floorMod_7cf53_15 rfl (lv_at hl 2 rfl) ?_
      refine lv_iadd hx hb dJ9_floorMod_7cf53_16 ?_
      have h0 := Option.some.inj h0
      subst h0
      subst hQ
      exact w_iret K hr0 X rfl hsz dJ9_floorMod_7cf53_17
