/-! CTOR, the class -/
def R1 : RowS := (f_X3_clear 9 Rz 2 50000).getD Rz
theorem R1_eq : f_X3_clear 9 Rz 2 50000 = some R1 := by
  have h : (f_X3_clear 9 Rz 2 50000).isSome = true := by decide +kernel
  unfold R1
  cases hx : f_X3_clear 9 Rz 2 50000 with
  | none => rw [hx] at h; cases h
  | some x => rfl
abbrev rm_X7_init : Room := { frames := 6, cells := 240, slots := 2878, locals := 400 }
set_option maxRecDepth 100000 in
set_option maxHeartbeats 4000000 in
theorem m_X7_init (l : Launch) (D : va_G) (ca : Nat → ClassId) (z : ZG) (us : va_W) (q sz : Nat) : Met l yX7_init (ws_ yX7_init cX7_init 1 none) rm_X7_init (PCz z D ca (us ++ [(q, .inr (9, objD))]) sz [.ref q]) (QEa D (AL (us ++ [(q, .inr (9, objD))]) sz) (fun w => ∃ (ar : Nat → Nat → Nat) (ag : Nat → Nat), ag 0 = q ∧ w = wC ar ag ca (va_up Pz 0 R1) Gz ++ us)) 240 2878 (AL (us ++ [(q, .inr (9, objD))]) sz) := by
  refine met_e (by decide +kernel) (Nat.le_of_ble_eq_true rfl) (fun p e s m args below meth c A K hn0 hr0 hA hZ X ls hl => ?_)
  have K : MC D ca p s m args meth c cX7_init 1 RX7 := K
  have hx := K.1
  have hb := K.2.1
  have hl : lv_has ls 1 [(0, .ref q)] := hl
  generalize hQ : MQ below _ args s 240 2878 _ = Q
  refine lv_aload_n hx hb dX7_init_0 rfl (lv_at hl 0 rfl) ?_
  refine w_oinit K hl.1 q118 q119 q120 (Nat.le_of_ble_eq_true rfl) (Nat.le_of_ble_eq_true rfl) dX7_init_1 ?_
  have X : RX D A (us ++ ((q, .inr (9, [.null, .null, .null, .null, .null, .null, .int 0])) :: [])) s.heap _ _ := X
  refine lv_aload_n hx hb dX7_init_4 rfl (lv_at hl 0 rfl) ?_
  refine x_new K hA X iX3 tyX3 tyX3_ok q121 q122 q88 (ci := 5) rfl (fs := rowD) (fun j hj => by rcases j with _ | _ | _ | _ | _ | _ | _ | _ | j <;> first | rfl | omega) (Nat.le_of_ble_eq_true rfl) (Nat.le_of_ble_eq_true rfl) dX7_init_5 (fun r0 H X => ?_)
  refine lv_dup hx hb dX7_init_8 rfl ?_
  refine x_ctor K hA hZ X (m_X3_init l D ca z _ r0 _) hl.1 0 q123 q124 q88 q125 rfl hs_X3_init ⟨⟨(Nat.le_of_ble_eq_true rfl), (Nat.le_of_ble_eq_true rfl)⟩, rfl, rfl⟩ rfl rfl (Nat.le_of_ble_eq_true rfl) dX7_init_9 ⟨(Nat.le_of_ble_eq_true rfl), (Nat.le_of_ble_eq_true rfl)⟩ (fun _ H locs eX X => ?_)
  obtain ⟨f0, hf0, eX⟩ := eX
  subst eX
  have X9 := RX.cat X
  subst hf0
  have X : RX D A (us ++ ((q, .inr (9, [.null, .null, .null, .null, .null, .null, .int 0])) :: rowO ca f0)) s.heap _ _ := X9
  refine x_putF K hn0 X iX7 tyX7 tyX7_ok nmX7 (ci := 9) rfl (us.length + 0) (ap_get rfl) 0 (by decide) q361 rfl rfl rfl rfl rfl (Nat.le_of_ble_eq_true rfl) (ap_set rfl) dX7_init_12 (fun H locs X => ?_)
  have X : RX D A (us ++ ((q, .inr (9, [.ref (f0 0), .null, .null, .null, .null, .null, .int 0])) :: rowO ca f0)) s.heap _ _ := X
  refine lv_aload_n hx hb dX7_init_15 rfl (lv_at hl 0 rfl) ?_
  refine x_new K hA X iX3 tyX3 tyX3_ok q121 q122 q88 (ci := 5) rfl (fs := rowD) (fun j hj => by rcases j with _ | _ | _ | _ | _ | _ | _ | _ | j <;> first | rfl | omega) (Nat.le_of_ble_eq_true rfl) (Nat.le_of_ble_eq_true rfl) dX7_init_16 (fun r1 H X => ?_)
  refine lv_dup hx hb dX7_init_19 rfl ?_
  refine x_ctor K hA hZ X (m_X3_init l D ca z _ r1 _) hl.1 0 q123 q124 q88 q125 rfl hs_X3_init ⟨⟨(Nat.le_of_ble_eq_true rfl), (Nat.le_of_ble_eq_true rfl)⟩, rfl, rfl⟩ rfl rfl (Nat.le_of_ble_eq_true rfl) dX7_init_20 ⟨(Nat.le_of_ble_eq_true rfl), (Nat.le_of_ble_eq_true rfl)⟩ (fun _ H locs eX X => ?_)
  obtain ⟨f1, hf1, eX⟩ := eX
  subst eX
  have X9 := RX.cat X
  subst hf1
  have X : RX D A (us ++ ((q, .inr (9, [.ref (f0 0), .null, .null, .null, .null, .null, .int 0])) :: (rowO ca f0 ++ rowO ca f1))) s.heap _ _ := X9
  refine x_putF K hn0 X iX7 tyX7 tyX7_ok nmX7 (ci := 9) rfl (us.length + 0) (ap_get rfl) 1 (by decide) q362 rfl rfl rfl rfl rfl (Nat.le_of_ble_eq_true rfl) (ap_set rfl) dX7_init_23 (fun H locs X => ?_)
  have X : RX D A (us ++ ((q, .inr (9, [.ref (f0 0), .ref (f1 0), .null, .null, .null, .null, .int 0])) :: (rowO ca f0 ++ rowO ca f1))) s.heap _ _ := X
  refine lv_aload_n hx hb dX7_init_26 rfl (lv_at hl 0 rfl) ?_
  refine x_new K hA X iX3 tyX3 tyX3_ok q121 q122 q88 (ci := 5) rfl (fs := rowD) (fun j hj => by rcases j with _ | _ | _ | _ | _ | _ | _ | _ | j <;> first | rfl | omega) (Nat.le_of_ble_eq_true rfl) (Nat.le_of_ble_eq_true rfl) dX7_init_27 (fun r2 H X => ?_)
  refine lv_dup hx hb dX7_init_30 rfl ?_
  refine x_ctor K hA hZ X (m_X3_init l D ca z _ r2 _) hl.1 0 q123 q124 q88 q125 rfl hs_X3_init ⟨⟨(Nat.le_of_ble_eq_true rfl), (Nat.le_of_ble_eq_true rfl)⟩, rfl, rfl⟩ rfl rfl (Nat.le_of_ble_eq_true rfl) dX7_init_31 ⟨(Nat.le_of_ble_eq_true rfl), (Nat.le_of_ble_eq_true rfl)⟩ (fun _ H locs eX X => ?_)
  obtain ⟨f2, hf2, eX⟩ := eX
  subst eX
  have X9 := RX.cat X
  subst hf2
  have X : RX D A (us ++ ((q, .inr (9, [.ref (f0 0), .ref (f1 0), .null, .null, .null, .null, .int 0])) :: ((rowO ca f0 ++ rowO ca f1) ++ rowO ca f2))) s.heap _ _ := X9
  refine x_putF K hn0 X iX7 tyX7 tyX7_ok nmX7 (ci := 9) rfl (us.length + 0) (ap_get rfl) 2 (by decide) q363 rfl rfl rfl rfl rfl (Nat.le_of_ble_eq_true rfl) (ap_set rfl) dX7_init_34 (fun H locs X => ?_)
  have X : RX D A (us ++ ((q, .inr (9, [.ref (f0 0), .ref (f1 0), .ref (f2 0), .null, .null, .null, .int 0])) :: ((rowO ca f0 ++ rowO ca f1) ++ rowO ca f2))) s.heap _ _ := X
  refine lv_aload_n hx hb dX7_init_37 rfl (lv_at hl 0 rfl) ?_
  refine x_new K hA X iX0 tyX0 tyX0_ok q255 q256 q91 (ci := 2) rfl (fs := hisD) (fun j hj => by rcases j with _ | _ | _ | j <;> first | rfl | omega) (Nat.le_of_ble_eq_true rfl) (Nat.le_of_ble_eq_true rfl) dX7_init_38 (fun h H X => ?_)
  refine lv_dup hx hb dX7_init_41 rfl ?_
  refine x_ctor K hA hZ X (m_X0_init l D ca z _ h _) hl.1 0 q257 q258 q91 q259 rfl hs_X0_init ⟨⟨(Nat.le_of_ble_eq_true rfl), (Nat.le_of_ble_eq_true rfl)⟩, rfl, rfl⟩ rfl rfl (Nat.le_of_ble_eq_true rfl) dX7_init_42 ⟨(Nat.le_of_ble_eq_true rfl), (Nat.le_of_ble_eq_true rfl)⟩ (fun _ H locs eX X => ?_)
  obtain ⟨b, fs, hfs, eX⟩ := eX
  subst eX
  have X : RX D A (us ++ ((q, .inr (9, [.ref (f0 0), .ref (f1 0), .ref (f2 0), .null, .null, .null, .int 0])) :: (((rowO ca f0 ++ rowO ca f1) ++ rowO ca f2) ++ (two ca h b (fun j => some ((fs.getD j (fun _ => 0)) 0)) ++ rowsO ca fs)))) s.heap _ _ := RX.cat X
  refine x_putF K hn0 X iX7 tyX7 tyX7_ok nmX7 (ci := 9) rfl (us.length + 0) (ap_get rfl) 3 (by decide) q364 rfl rfl rfl rfl rfl (Nat.le_of_ble_eq_true rfl) (ap_set rfl) dX7_init_45 (fun H locs X => ?_)
  have X : RX D A (us ++ ((q, .inr (9, [.ref (f0 0), .ref (f1 0), .ref (f2 0), .ref h, .null, .null, .int 0])) :: (((rowO ca f0 ++ rowO ca f1) ++ rowO ca f2) ++ (two ca h b (fun j => some ((fs.getD j (fun _ => 0)) 0)) ++ rowsO ca fs)))) s.heap _ _ := X
  refine lv_aload_n hx hb dX7_init_48 rfl (lv_at hl 0 rfl) ?_
  refine x_new K hA X iX5 tyX5 tyX5_ok q275 q276 q92 (ci := 7) rfl (fs := tokD) (fun j hj => by rcases j with _ | _ | _ | _ | _ | _ | _ | _ | _ | j <;> first | rfl | omega) (Nat.le_of_ble_eq_true rfl) (Nat.le_of_ble_eq_true rfl) dX7_init_49 (fun t H X => ?_)
  refine lv_dup hx hb dX7_init_52 rfl ?_
  refine x_ctorN K hA hZ X (m_X5_init l D ca z _ t _) hl.1 0 (hZ.2.2.2.2.2.2.2.2.1 _ (List.mem_of_getElem? (i := 2) rfl)) q278 q92 q279 rfl hs_X5_init ⟨⟨(Nat.le_of_ble_eq_true rfl), (Nat.le_of_ble_eq_true rfl)⟩, rfl, rfl⟩ rfl rfl (Nat.le_of_ble_eq_true rfl) dX7_init_53 ⟨(Nat.le_of_ble_eq_true rfl), (Nat.le_of_ble_eq_true rfl)⟩ (fun _ H locs eX X => ?_)
  obtain ⟨tb, eX⟩ := eX
  subst eX
  have X : RX D A (us ++ ((q, .inr (9, [.ref (f0 0), .ref (f1 0), .ref (f2 0), .ref h, .null, .null, .int 0])) :: ((((rowO ca f0 ++ rowO ca f1) ++ rowO ca f2) ++ (two ca h b (fun j => some ((fs.getD j (fun _ => 0)) 0)) ++ rowsO ca fs)) ++ [(t, .inr (7, [.ref tb, .int 0, .int 0, .int 0, .int 0, .int 0, .int 0, .int 0, .int (-1)])), (tb, .inl (ca 0, 600, .inl fun _ => 0))]))) s.heap _ _ := RX.cat X
  refine x_putF K hn0 X iX7 tyX7 tyX7_ok nmX7 (ci := 9) rfl (us.length + 0) (ap_get rfl) 4 (by decide) q365 rfl rfl rfl rfl rfl (Nat.le_of_ble_eq_true rfl) (ap_set rfl) dX7_init_56 (fun H locs X => ?_)
  have X : RX D A (us ++ ((q, .inr (9, [.ref (f0 0), .ref (f1 0), .ref (f2 0), .ref h, .ref t, .null, .int 0])) :: ((((rowO ca f0 ++ rowO ca f1) ++ rowO ca f2) ++ (two ca h b (fun j => some ((fs.getD j (fun _ => 0)) 0)) ++ rowsO ca fs)) ++ [(t, .inr (7, [.ref tb, .int 0, .int 0, .int 0, .int 0, .int 0, .int 0, .int 0, .int (-1)])), (tb, .inl (ca 0, 600, .inl fun _ => 0))]))) s.heap _ _ := X
  refine lv_aload_n hx hb dX7_init_59 rfl (lv_at hl 0 rfl) ?_
  refine x_new K hA X iJ4 tyJ4 tyJ4_ok q315 q316 q94 (ci := 1) rfl (fs := sbD) (fun j hj => by rcases j with _ | _ | _ | _ | j <;> first | rfl | omega) (Nat.le_of_ble_eq_true rfl) (Nat.le_of_ble_eq_true rfl) dX7_init_60 (fun sq H X => ?_)
  refine lv_dup hx hb dX7_init_63 rfl ?_
  refine x_ctor K hA hZ X (m_J4_init_da8c8 l D ca z _ sq _) hl.1 0 q317 q318 q94 q319 rfl hs_J4_init_da8c8 ⟨⟨(Nat.le_of_ble_eq_true rfl), (Nat.le_of_ble_eq_true rfl)⟩, rfl, rfl⟩ rfl rfl (Nat.le_of_ble_eq_true rfl) dX7_init_64 ⟨(Nat.le_of_ble_eq_true rfl), (Nat.le_of_ble_eq_true rfl)⟩ (fun _ H locs eX X => ?_)
  obtain ⟨sb, eX⟩ := eX
  subst eX
  have X : RX D A (us ++ ((q, .inr (9, [.ref (f0 0), .ref (f1 0), .ref (f2 0), .ref h, .ref t, .null, .int 0])) :: (((((rowO ca f0 ++ rowO ca f1) ++ rowO ca f2) ++ (two ca h b (fun j => some ((fs.getD j (fun _ => 0)) 0)) ++ rowsO ca fs)) ++ [(t, .inr (7, [.ref tb, .int 0, .int 0, .int 0, .int 0, .int 0, .int 0, .int 0, .int (-1)])), (tb, .inl (ca 0, 600, .inl fun _ => 0))]) ++ [(sq, .inr (1, [.ref sb, .int 0, .int 0, .int 0])), (sb, .inl (ca 0, 16, .inl fun _ => 0))]))) s.heap _ _ := RX.cat X
  refine x_putF K hn0 X iX7 tyX7 tyX7_ok nmX7 (ci := 9) rfl (us.length + 0) (ap_get rfl) 5 (by decide) q366 rfl rfl rfl rfl rfl (Nat.le_of_ble_eq_true rfl) (ap_set rfl) dX7_init_67 (fun H locs X => ?_)
  have X : RX D A (us ++ ((q, .inr (9, [.ref (f0 0), .ref (f1 0), .ref (f2 0), .ref h, .ref t, .ref sq, .int 0])) :: (((((rowO ca f0 ++ rowO ca f1) ++ rowO ca f2) ++ (two ca h b (fun j => some ((fs.getD j (fun _ => 0)) 0)) ++ rowsO ca fs)) ++ [(t, .inr (7, [.ref tb, .int 0, .int 0, .int 0, .int 0, .int 0, .int 0, .int 0, .int (-1)])), (tb, .inl (ca 0, 600, .inl fun _ => 0))]) ++ [(sq, .inr (1, [.ref sb, .int 0, .int 0, .int 0])), (sb, .inl (ca 0, 16, .inl fun _ => 0))]))) s.heap _ _ := X
  have X := X.perm (obj_perm hfs)
  refine lv_aload_n hx hb dX7_init_70 rfl (lv_at hl 0 rfl) ?_
  refine x_get K X iX7 rfl (234 + 0) (pl_glb (k := 0) (by decide)) 0 (by decide) q361 rfl dX7_init_71 ?_
  refine lv_iconst (v := 2) hx hb dX7_init_74 (by decide) ?_
  refine lv_ldc hx hb K.2.2.2.1 (K.2.2.2.2.1 _ q347) dX7_init_75 ?_
  have kx := mC_X3_clear l D ca (arO f0 f1 f2 fs) (agO q h b t tb sq sb) 9 Pz 0 Gz us (by decide) 2 50000 R1 R1_eq H.size
  refine x_callV K hA X kx hl.1 2 q348 q349 q350 q88 q351 hv_X3_clear ⟨⟨(Nat.le_of_ble_eq_true rfl), (Nat.le_of_ble_eq_true rfl)⟩, rfl, rfl⟩ (pl_rowo (by decide)) rfl rfl rfl rfl (Nat.le_of_ble_eq_true rfl) dX7_init_77 ⟨(Nat.le_of_ble_eq_true rfl), (Nat.le_of_ble_eq_true rfl)⟩ (fun H locs X => ?_)
  subst hQ
  exact x_vret K hr0 X ⟨_, _, rfl, rfl⟩ dX7_init_80
