/-! CTOR, further -/
def sbD : List Value := [.null, .int 0, .int 0, .int 0]
abbrev rm_J5_init_d00df : Room := { frames := 1, cells := 1, slots := 16, locals := 40 }
set_option maxRecDepth 100000 in
set_option maxHeartbeats 4000000 in
theorem m_J5_init_d00df (l : Launch) (D : va_G) (ca : Nat → ClassId) (z : ZG) (us : va_W) (q sz : Nat) : Met l yJ5_init_d00df (ws_ yJ5_init_d00df cJ5_init_d00df 2 none) rm_J5_init_d00df (PCz z D ca (us ++ [(q, .inr (1, sbD))]) sz [.ref q, .int 16]) (QEa D (AL (us ++ [(q, .inr (1, sbD))]) sz) (fun w => ∃ b : Nat, w = us ++ [(q, .inr (1, [.ref b, .int 0, .int 0, .int 0])), (b, .inl (ca 0, 16, .inl fun _ => 0))])) 1 16 (AL (us ++ [(q, .inr (1, sbD))]) sz) := by
  refine met_e (by decide +kernel) (Nat.le_of_ble_eq_true rfl) (fun p e s m args below meth c A K hn0 hr0 hA hZ X ls hl => ?_)
  have K : MC D ca p s m args meth c cJ5_init_d00df 2 RJ5 := K
  have hx := K.1
  have hb := K.2.1
  have hl : lv_has ls 2 [(0, .ref q), (1, .int 16)] := hl
  generalize hQ : MQ below _ args s 1 16 _ = Q
  refine lv_aload_n hx hb dJ5_init_d00df_0 rfl (lv_at hl 0 rfl) ?_
  refine w_oinit K hl.1 q239 q41 q42 (Nat.le_of_ble_eq_true rfl) (Nat.le_of_ble_eq_true rfl) dJ5_init_d00df_1 ?_
  refine x_compact K hZ X q240 dJ5_init_d00df_4 ?_
  refine lv_if_eq (tgt := 25) hx hb dJ5_init_d00df_7 (by decide) (fun c1 => False.elim (by revert c1; decide)) (fun _ => ?_)
  refine lv_aload_n hx hb dJ5_init_d00df_10 rfl (lv_at hl 0 rfl) ?_
  refine lv_iload_n hx hb dJ5_init_d00df_11 rfl (lv_at hl 1 rfl) ?_
  refine x_newa K hA X (ty := .byte) rfl 0 rfl (fun C h => by cases h) q230 (x := .inl fun _ => 0) (fun cA => rfl) (by decide) (N' := 16) (by decide) (by decide) (Nat.le_of_ble_eq_true rfl) (Nat.le_of_ble_eq_true rfl) dJ5_init_d00df_12 (fun b H X => ?_)
  have X : RX D A (us ++ [(q, .inr (1, [.null, .int 0, .int 0, .int 0])), (b, .inl (ca 0, 16, .inl fun _ => 0))]) s.heap H _ := RX.cat X
  refine x_put K X iJ4 tyJ4 tyJ4_ok nmJ4 (ci := 1) rfl (us.length + 0) (ap_get rfl) 0 (by decide) q249 rfl rfl rfl rfl (Nat.le_of_ble_eq_true rfl) (ap_set rfl) dJ5_init_d00df_14 (fun H locs X => ?_)
  refine lv_aload_n hx hb dJ5_init_d00df_17 rfl (lv_at hl 0 rfl) ?_
  refine lv_iconst (v := 0) hx hb dJ5_init_d00df_18 (by decide) ?_
  refine x_put K X iJ4 tyJ4 tyJ4_ok nmJ4 (ci := 1) rfl (us.length + 0) (ap_get rfl) 1 (by decide) q250 rfl rfl rfl rfl (Nat.le_of_ble_eq_true rfl) (ap_set rfl) dJ5_init_d00df_19 (fun H locs X => ?_)
  refine lv_goto (tgt := 38) hx hb dJ5_init_d00df_22 (by decide) ?_
  subst hQ
  exact x_vret K hr0 X ⟨b, rfl⟩ dJ5_init_d00df_38
abbrev rm_J4_init_da8c8 : Room := { frames := 2, cells := 1, slots := 16, locals := 70 }
set_option maxRecDepth 100000 in
set_option maxHeartbeats 4000000 in
theorem m_J4_init_da8c8 (l : Launch) (D : va_G) (ca : Nat → ClassId) (z : ZG) (us : va_W) (q sz : Nat) : Met l yJ4_init_da8c8 (ws_ yJ4_init_da8c8 cJ4_init_da8c8 1 none) rm_J4_init_da8c8 (PCz z D ca (us ++ [(q, .inr (1, sbD))]) sz [.ref q]) (QEa D (AL (us ++ [(q, .inr (1, sbD))]) sz) (fun w => ∃ b : Nat, w = us ++ [(q, .inr (1, [.ref b, .int 0, .int 0, .int 0])), (b, .inl (ca 0, 16, .inl fun _ => 0))])) 1 16 (AL (us ++ [(q, .inr (1, sbD))]) sz) := by
  refine met_e (by decide +kernel) (Nat.le_of_ble_eq_true rfl) (fun p e s m args below meth c A K hn0 hr0 hA hZ X ls hl => ?_)
  have K : MC D ca p s m args meth c cJ4_init_da8c8 1 RJ4 := K
  have hx := K.1
  have hb := K.2.1
  have hl : lv_has ls 1 [(0, .ref q)] := hl
  generalize hQ : MQ below _ args s 1 16 _ = Q
  refine lv_aload_n hx hb dJ4_init_da8c8_0 rfl (lv_at hl 0 rfl) ?_
  refine lv_bipush (v := 16) hx hb dJ4_init_da8c8_1 (by decide) ?_
  refine x_ctor K hA hZ X (m_J5_init_d00df l D ca z us q _) hl.1 1 q236 q237 q22 q238 rfl hs_J5_init_d00df ⟨⟨(Nat.le_of_ble_eq_true rfl), (Nat.le_of_ble_eq_true rfl)⟩, rfl, rfl⟩ rfl rfl (Nat.le_of_ble_eq_true rfl) dJ4_init_da8c8_3 ⟨(Nat.le_of_ble_eq_true rfl), (Nat.le_of_ble_eq_true rfl)⟩ (fun _ H locs eX X => ?_)
  subst hQ
  exact x_vret K hr0 X eX dJ4_init_da8c8_6
def tokD : List Value := [.null, .int 0, .int 0, .int 0, .int 0, .int 0, .int 0, .int 0, .int 0]
abbrev rm_X5_init : Room := { frames := 1, cells := 1, slots := 600, locals := 40 }
set_option maxRecDepth 100000 in
set_option maxHeartbeats 4000000 in
theorem m_X5_init (l : Launch) (D : va_G) (ca : Nat → ClassId) (z : ZG) (us : va_W) (q sz : Nat) : Met l yX5_init (ws_ yX5_init cX5_init 1 none) rm_X5_init (PCz z D ca (us ++ [(q, .inr (7, tokD))]) sz [.ref q]) (QEa D (AL (us ++ [(q, .inr (7, tokD))]) sz) (fun w => ∃ b : Nat, w = us ++ [(q, .inr (7, [.ref b, .int 0, .int 0, .int 0, .int 0, .int 0, .int 0, .int 0, .int (-1)])), (b, .inl (ca 0, 600, .inl fun _ => 0))])) 1 600 (AL (us ++ [(q, .inr (7, tokD))]) sz) := by
  refine met_e (by decide +kernel) (Nat.le_of_ble_eq_true rfl) (fun p e s m args below meth c A K hn0 hr0 hA hZ X ls hl => ?_)
  have K : MC D ca p s m args meth c cX5_init 1 RX5 := K
  have hx := K.1
  have hb := K.2.1
  have hl : lv_has ls 1 [(0, .ref q)] := hl
  generalize hQ : MQ below _ args s 1 600 _ = Q
  refine lv_aload_n hx hb dX5_init_0 rfl (lv_at hl 0 rfl) ?_
  refine w_oinit K hl.1 q198 q41 q42 (Nat.le_of_ble_eq_true rfl) (Nat.le_of_ble_eq_true rfl) dX5_init_1 ?_
  refine lv_aload_n hx hb dX5_init_4 rfl (lv_at hl 0 rfl) ?_
  refine lv_sipush (v := 600) hx hb dX5_init_5 (by decide) ?_
  refine x_newa K hA X (ty := .byte) rfl 0 rfl (fun C h => by cases h) q230 (x := .inl fun _ => 0) (fun cA => rfl) (by decide) (N' := 600) (by decide) (by decide) (Nat.le_of_ble_eq_true rfl) (Nat.le_of_ble_eq_true rfl) dX5_init_8 (fun b H X => ?_)
  have X : RX D A (us ++ [(q, .inr (7, tokD)), (b, .inl (ca 0, 600, .inl fun _ => 0))]) s.heap H _ := RX.cat X
  refine x_putF K hn0 X iX5 tyX5 tyX5_ok nmX5 (ci := 7) rfl (us.length + 0) (ap_get rfl) 0 (by decide) q199 rfl rfl rfl rfl rfl (Nat.le_of_ble_eq_true rfl) (ap_set rfl) dX5_init_10 (fun H locs X => ?_)
  refine lv_aload_n hx hb dX5_init_13 rfl (lv_at hl 0 rfl) ?_
  refine lv_iconst (v := -1) hx hb dX5_init_14 (by decide) ?_
  refine x_put K X iX5 tyX5 tyX5_ok nmX5 (ci := 7) rfl (us.length + 0) (ap_get rfl) 8 (by decide) q209 rfl rfl rfl rfl (Nat.le_of_ble_eq_true rfl) (ap_set rfl) dX5_init_15 (fun H locs X => ?_)
  subst hQ
  exact x_vret K hr0 X ⟨b, rfl⟩ dX5_init_18
def hisD : List Value := [.null, .int 0, .int 0]
def two (ca : Nat → ClassId) (q b : Nat) (F : Nat → Option Nat) : va_W := [(q, .inr (2, [.ref b, .int 0, .int 0])), (b, .inl (ca 3, 10, .inr (.inr (.inr (.inr F)))))]
def rowsO (ca : Nat → ClassId) (fs : List (Nat → Nat)) : va_W := fs.flatMap (rowO ca)
abbrev rm_X0_init : Room := { frames := 4, cells := 181, slots := 1730, locals := 200 }
theorem up_fs {fs : List (Nat → Nat)} {f : Nat → Nat} {a k : Nat} (hf : f 0 = a) (hk : k = fs.length) : va_up (fun j => (fs[j]?).map (fun g => g 0)) k (some a) = fun j => ((fs ++ [f])[j]?).map (fun g => g 0) := by
  subst hk; subst hf
  funext j
  by_cases hj : j = fs.length
  · subst hj; rw [va_up_self]; simp
  · rw [va_up_ne _ _ hj]
    by_cases h2 : j < fs.length
    · rw [List.getElem?_append_left h2]
    · rw [List.getElem?_eq_none (by omega), List.getElem?_eq_none (by simp; omega)]
set_option maxRecDepth 100000 in
set_option maxHeartbeats 4000000 in
theorem m_X0_init (l : Launch) (D : va_G) (ca : Nat → ClassId) (z : ZG) (us : va_W) (q sz : Nat) : Met l yX0_init (ws_ yX0_init cX0_init 2 none) rm_X0_init (PCz z D ca (us ++ [(q, .inr (2, hisD))]) sz [.ref q]) (QEa D (AL (us ++ [(q, .inr (2, hisD))]) sz) (fun w => ∃ (b : Nat) (fs : List (Nat → Nat)), fs.length = 10 ∧ w = us ++ (two ca q b (fun j => some ((fs.getD j (fun _ => 0)) 0)) ++ rowsO ca fs))) 181 1730 (AL (us ++ [(q, .inr (2, hisD))]) sz) := by
  refine met_e (by decide +kernel) (Nat.le_of_ble_eq_true rfl) (fun p e s m args below meth c A K hn0 hr0 hA hZ X ls hl => ?_)
  have K : MC D ca p s m args meth c cX0_init 2 RX0 := K
  have hx := K.1
  have hb := K.2.1
  have hl : lv_has ls 2 [(0, .ref q)] := hl
  generalize hQ : MQ below _ args s 181 1730 _ = Q
  refine lv_aload_n hx hb dX0_init_0 rfl (lv_at hl 0 rfl) ?_
  refine w_oinit K hl.1 q179 q41 q42 (Nat.le_of_ble_eq_true rfl) (Nat.le_of_ble_eq_true rfl) dX0_init_1 ?_
  refine lv_aload_n hx hb dX0_init_4 rfl (lv_at hl 0 rfl) ?_
  refine lv_bipush (v := 10) hx hb dX0_init_5 (by decide) ?_
  refine x_newq K hA X q180 hZ.2.2.2.2.2.2.1 3 rfl (by decide) (N' := 10) (by decide) (by decide) (Nat.le_of_ble_eq_true rfl) (Nat.le_of_ble_eq_true rfl) dX0_init_7 (fun b H X => ?_)
  have X : RX D A (us ++ [(q, .inr (2, hisD)), (b, .inl (ca 3, 10, .inr (.inr (.inr (.inr fun _ => none)))))]) s.heap H _ := RX.cat X
  refine x_putF K hn0 X iX0 tyX0 tyX0_ok nmX0 (ci := 2) rfl (us.length + 0) (ap_get rfl) 0 (by decide) q183 rfl rfl rfl rfl rfl (Nat.le_of_ble_eq_true rfl) (ap_set rfl) dX0_init_10 (fun H locs X => ?_)
  have X : RX D A (us ++ (two ca q b (fun j => (([] : List (Nat → Nat))[j]?).map (fun g => g 0)) ++ rowsO ca [])) s.heap H _ := X
  refine lv_iconst (v := 0) hx hb dX0_init_13 (by decide) ?_
  refine lv_istore_n (lv' := [(1, .int 0), (0, .ref q)]) hx hb dX0_init_14 rfl hl (by decide) rfl (fun ls hl => ?_)
  have KL : ∀ (d : Nat) (fs : List (Nat → Nat)) (hd : fs.length + d = 10) (H : Heap) (locs : List Loc) (cells slots : Nat) (hc : cells = 1 + 18 * fs.length) (hs : slots = 10 + 172 * fs.length) (X : RX D A (us ++ (two ca q b (fun j => (fs[j]?).map (fun g => g 0)) ++ rowsO ca fs)) s.heap H locs) (ls : Array Slot) (hl : lv_has ls 2 [(1, .int (nI fs.length)), (0, .ref q)]), W p l e rm_X0_init s m args below meth c H locs cells slots Q (F0 m 15 ls []) := by
    intro d
    induction d with
    | zero =>
      intro fs hd H locs cells slots hc hs X ls hl
      have h10 : fs.length = 10 := by omega
      refine lv_iload_n hx hb dX0_init_15 rfl (lv_at hl 0 rfl) ?_
      refine lv_aload_n hx hb dX0_init_16 rfl (lv_at hl 1 rfl) ?_
      refine x_get K X iX0 rfl (us.length + 0) (ap_get rfl) 0 (by decide) q183 rfl dX0_init_17 ?_
      refine x_alen K X (t0 := 3) (us.length + 1) (ap_get rfl) rfl (v := 10) rfl dX0_init_20 ?_
      refine lv_icmp_ge (tgt := 43) hx hb dX0_init_21 (by decide) (fun _ => ?_) (fun c1 => absurd (by rw [h10]; decide) c1)
      have X := X.arr (q0 := us.length + 1) (ap_get rfl) (F' := fun j => some ((fs.getD j (fun _ => 0)) 0)) (fun j hj => by rw [List.getElem?_eq_getElem (by omega), List.getD_eq_getElem?_getD, List.getElem?_eq_getElem (by omega)]; rfl)
      have X : RX D A (us ++ (two ca q b (fun j => some ((fs.getD j (fun _ => 0)) 0)) ++ rowsO ca fs)) s.heap H locs :=
        (ap_set (us := us) (j := 1) (L := two ca q b (fun j => (fs[j]?).map (fun g => g 0)) ++ rowsO ca fs) (L' := two ca q b (fun j => some ((fs.getD j (fun _ => 0)) 0)) ++ rowsO ca fs) rfl) ▸ X
      have e1 : cells = 181 := by omega
      have e2 : slots = 1730 := by omega
      subst e1; subst e2; subst hQ
      exact x_vret K hr0 X ⟨b, fs, h10, rfl⟩ dX0_init_43
    | succ d ih =>
      intro fs hd H locs cells slots hc hs X ls hl
      have hk : fs.length < 10 := by omega
      obtain ⟨k1_, k2_, k3_⟩ := n10 _ hk
      refine lv_iload_n hx hb dX0_init_15 rfl (lv_at hl 0 rfl) ?_
      refine lv_aload_n hx hb dX0_init_16 rfl (lv_at hl 1 rfl) ?_
      refine x_get K X iX0 rfl (us.length + 0) (ap_get rfl) 0 (by decide) q183 rfl dX0_init_17 ?_
      refine x_alen K X (t0 := 3) (us.length + 1) (ap_get rfl) rfl (v := 10) rfl dX0_init_20 ?_
      refine lv_icmp_ge (tgt := 43) hx hb dX0_init_21 (by decide) (fun c1 => absurd c1 k1_) (fun _ => ?_)
      refine lv_aload_n hx hb dX0_init_24 rfl (lv_at hl 1 rfl) ?_
      refine x_get K X iX0 rfl (us.length + 0) (ap_get rfl) 0 (by decide) q183 rfl dX0_init_25 ?_
      refine lv_iload_n hx hb dX0_init_28 rfl (lv_at hl 0 rfl) ?_
      refine x_new K hA X iX3 tyX3 tyX3_ok q180 q44 q17 (ci := 5) rfl (fs := rowD) (fun j hj => by rcases j with _ | _ | _ | _ | _ | _ | _ | _ | j <;> first | rfl | omega) (by show cells + 1 ≤ 181; omega) (by show slots + 8 ≤ 1730; omega) dX0_init_29 (fun r H X => ?_)
      refine lv_dup hx hb dX0_init_32 rfl ?_
      refine x_ctor K hA hZ X (m_X3_init l D ca z _ r _) hl.1 0 q182 q46 q17 q47 rfl hs_X3_init ⟨⟨(Nat.le_of_ble_eq_true rfl), (Nat.le_of_ble_eq_true rfl)⟩, rfl, rfl⟩ rfl rfl (Nat.le_of_ble_eq_true rfl) dX0_init_33 ⟨(by show cells + 1 + 17 ≤ 181; omega), (by show slots + 8 + 164 ≤ 1730; omega)⟩ (fun ws H locs eX X => ?_)
      obtain ⟨f, hf, eX⟩ := eX
      subst eX
      have hqk : ((us ++ (two ca q b (fun j => (fs[j]?).map (fun g => g 0)) ++ rowsO ca fs)) ++ rowO ca f)[(us ++ (two ca q b (fun j => (fs[j]?).map (fun g => g 0)) ++ rowsO ca fs)).length + 0]? = some (r, .inr (5, rowFs (fun _ => f) 0 (Rz.1 0))) := ap_get (by rw [← hf]; rfl)
      rw [List.append_assoc us, List.append_assoc (two ca q b _)] at hqk X
      refine x_astq K X (us.length + 1) 3 _ 5 (ap_get rfl) rfl hqk rfl (in10 hk) (ap_set rfl) dX0_init_36 (fun H locs X => ?_)
      rw [k2_, up_fs hf rfl] at X
      have X : RX D A (us ++ (two ca q b (fun j => ((fs ++ [f])[j]?).map (fun g => g 0)) ++ rowsO ca (fs ++ [f]))) s.heap H locs := by
        rw [show rowsO ca (fs ++ [f]) = rowsO ca fs ++ rowO ca f by simp [rowsO]]
        exact X
      refine lv_iinc (v := nI (fs.length + 1)) (lv' := [(1, .int (nI (fs.length + 1))), (0, .ref q)]) hx hb dX0_init_37 hl (k := 0) rfl (by rw [← k3_]; rfl) (by decide) rfl (fun ls hl => ?_)
      refine lv_goto (tgt := 15) hx hb dX0_init_40 (by decide) ?_
      exact ih (fs ++ [f]) (by simp; omega) H locs _ _ (by simp; omega) (by simp; omega) X ls (by rw [List.length_append]; exact hl)
  exact KL 10 [] rfl H _ _ _ rfl rfl X ls hl
