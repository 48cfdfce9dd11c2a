/-! constructor of the grammar -/
abbrev rm_X4_init : Room := { frames := 1, cells := 0, slots := 0, locals := 40 }
theorem m_X4_init (l : Launch) (D : va_G) (ca : Nat → ClassId) (ar : Nat → Nat → Nat) (ag : Nat → Nat) (P : RowsS) (G : GlbS) (xs : va_W) (gq v1 v2 sz : Nat) : Met l yX4_init (ws_ yX4_init cX4_init 3 none) rm_X4_init (PCw D ca (wC ar ag ca P G ++ (xs ++ [(gq, .inr (6, [.null, .null]))])) sz [.ref gq, .ref v1, .ref v2]) (QMw D (wC ar ag ca P G ++ (xs ++ [(gq, .inr (6, [.null, .null]))])) (wC ar ag ca P G ++ (xs ++ [(gq, .inr (6, [.ref v1, .ref v2]))])) sz none) 0 0 (AL (wC ar ag ca P G ++ (xs ++ [(gq, .inr (6, [.null, .null]))])) sz) := by
  refine met_ofN (by decide +kernel) (Nat.le_of_ble_eq_true rfl) (fun p e s m args below meth c K hn0 hr0 X hsz ls hl => ?_)
  have K : MC D ca p s m args meth c cX4_init 3 RX4 := K
  have hx := K.1
  have hb := K.2.1
  have hl : lv_has ls 3 [(0, .ref gq), (1, .ref v1), (2, .ref v2)] := hl
  generalize hQ : MQ below _ args s 0 0 _ = Q
  refine lv_aload_n hx hb dX4_init_0 rfl (lv_at hl 0 rfl) ?_
  refine w_oinit K hl.1 q498 q41 q42 (Nat.le_of_ble_eq_true rfl) (Nat.le_of_ble_eq_true rfl) dX4_init_1 ?_
  refine lv_aload_n hx hb dX4_init_4 rfl (lv_at hl 0 rfl) ?_
  refine lv_aload_n hx hb dX4_init_5 rfl (lv_at hl 1 rfl) ?_
  refine w_putF K hn0 X iX4 tyX4 tyX4_ok nmX4 (ci := 6) rfl (243 + xs.length) ctor_atw 0 (by decide) q499 rfl rfl rfl rfl rfl (Nat.le_of_ble_eq_true rfl) (ctor_set (q' := (gq, .inr (6, [.ref v1, .null])))) dX4_init_6 (fun H locs X => ?_)
  refine lv_aload_n hx hb dX4_init_9 rfl (lv_at hl 0 rfl) ?_
  refine lv_aload_n hx hb dX4_init_10 rfl (lv_at hl 2 rfl) ?_
  refine w_putF K hn0 X iX4 tyX4 tyX4_ok nmX4 (ci := 6) rfl (243 + xs.length) ctor_atw 1 (by decide) q500 rfl rfl rfl rfl rfl (Nat.le_of_ble_eq_true rfl) (ctor_set (q' := (gq, .inr (6, [.ref v1, .ref v2])))) dX4_init_11 (fun H locs X => ?_)
  subst hQ
  exact w_vret K hr0 X ctor_fst hsz dX4_init_14
