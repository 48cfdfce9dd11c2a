/-! CTOR, the two objects -/
def objD : List Value := [.null, .null, .null, .null, .null, .null, .int 0]
def arO (f0 f1 f2 : Nat → Nat) (fs : List (Nat → Nat)) : Nat → Nat → Nat
  | 0 => f0
  | 1 => f1
  | 2 => f2
  | n + 3 => fs.getD n (fun _ => 0)
def agO (q h b t tb s sb : Nat) : Nat → Nat
  | 0 => q
  | 1 => h
  | 2 => b
  | 3 => t
  | 4 => tb
  | 5 => s
  | _ => sb
def Gz : GlbS
  | 3, 8 => -1
  | _, _ => 0
def Pz : RowsS := fun _ => Rz
theorem rowCell_own {ar : Nat → Nat → Nat} {ca : Nat → ClassId} {r c : Nat} {R : RowS} : rowCell ar ca r R c = rowCell (fun _ => ar r) ca 0 R c := by
  unfold rowCell; split <;> rfl
theorem rowO_perm {ar : Nat → Nat → Nat} {ca : Nat → ClassId} {r : Nat} : ((List.range 18).map (fun c => ((ar r c, rowCell ar ca r Rz c) : Nat × va_E))).Perm (rowO ca (ar r)) := by
  have h : (List.range 18).Perm rowOrd := by decide +kernel
  have e : (fun c => ((ar r c, rowCell ar ca r Rz c) : Nat × va_E)) = (fun c => (ar r c, rowCell (fun _ => ar r) ca 0 Rz c)) := by
    funext c; rw [rowCell_own]
  rw [e]
  exact h.map _
theorem wC_eq {ar : Nat → Nat → Nat} {ag : Nat → Nat} {ca : Nat → ClassId} {P : RowsS} {G : GlbS} : wC ar ag ca P G = (List.range 13).flatMap (fun r => (List.range 18).map (fun c => (ar r c, rowCell ar ca r (P r) c))) ++ (List.range 7).map (fun k => (ag k, glbCell ar ag ca G k)) := by
  unfold wC
  congr 1
  rw [show List.range 234 = (List.range 13).flatMap (fun r => (List.range 18).map (fun c => 18 * r + c)) by decide +kernel, List.map_flatMap]
  congr 1
  funext r
  rw [List.map_map]
  apply List.map_congr_left
  intro c hc
  have hc' : c < 18 := List.mem_range.mp hc
  simp only [Function.comp, show (18 * r + c) / 18 = r by omega, show (18 * r + c) % 18 = c by omega]
theorem perm_mid3 {α : Type} (a b c : α) (X Y t : List α) : (a :: ((X ++ ([b, c] ++ Y)) ++ t)).Perm ((X ++ Y) ++ (a :: b :: c :: t)) := by
  refine List.Perm.trans ?_ (List.perm_middle (l₁ := X ++ Y) (a := a) (l₂ := b :: c :: t)).symm
  refine List.Perm.cons a ?_
  have h1 : ((X ++ ([b, c] ++ Y)) ++ t) = X ++ (b :: c :: (Y ++ t)) := by simp
  rw [h1]
  have e1 : (X ++ (b :: c :: (Y ++ t))).Perm (b :: c :: (X ++ (Y ++ t))) := List.perm_middle.trans (List.Perm.cons b List.perm_middle)
  have e2 : ((X ++ Y) ++ (b :: c :: t)).Perm (b :: c :: ((X ++ Y) ++ t)) := List.perm_middle.trans (List.Perm.cons b List.perm_middle)
  refine e1.trans (List.Perm.trans ?_ e2.symm)
  rw [List.append_assoc]
theorem obj_perm {ca : Nat → ClassId} {us : va_W} {q h b t tb s sb : Nat} {f0 f1 f2 : Nat → Nat} {fs : List (Nat → Nat)} (hl : fs.length = 10) :
    (us ++ ((q, .inr (9, [.ref (f0 0), .ref (f1 0), .ref (f2 0), .ref h, .ref t, .ref s, .int 0])) :: (((((rowO ca f0 ++ rowO ca f1) ++ rowO ca f2) ++ (two ca h b (fun j => some ((fs.getD j (fun _ => 0)) 0)) ++ rowsO ca fs)) ++ [(t, .inr (7, [.ref tb, .int 0, .int 0, .int 0, .int 0, .int 0, .int 0, .int 0, .int (-1)])), (tb, .inl (ca 0, 600, .inl fun _ => 0))]) ++ [(s, .inr (1, [.ref sb, .int 0, .int 0, .int 0])), (sb, .inl (ca 0, 16, .inl fun _ => 0))])) : va_W).Perm (wC (arO f0 f1 f2 fs) (agO q h b t tb s sb) ca Pz Gz ++ us) := by
  refine List.perm_append_comm.trans (List.Perm.append_right us ?_)
  rw [wC_eq]
  rcases fs with _ | ⟨f3, _ | ⟨f4, _ | ⟨f5, _ | ⟨f6, _ | ⟨f7, _ | ⟨f8, _ | ⟨f9, _ | ⟨f10, _ | ⟨f11, _ | ⟨f12, _ | ⟨f13, tl⟩⟩⟩⟩⟩⟩⟩⟩⟩⟩⟩ <;> simp at hl
  have hr : ∀ r : Nat, ((List.range 18).map (fun c => ((arO f0 f1 f2 [f3, f4, f5, f6, f7, f8, f9, f10, f11, f12] r c, rowCell (arO f0 f1 f2 [f3, f4, f5, f6, f7, f8, f9, f10, f11, f12]) ca r (Pz r) c) : Nat × va_E))).Perm (rowO ca (arO f0 f1 f2 [f3, f4, f5, f6, f7, f8, f9, f10, f11, f12] r)) := fun r => rowO_perm
  have hR : ((List.range 13).flatMap (fun r => (List.range 18).map (fun c => ((arO f0 f1 f2 [f3, f4, f5, f6, f7, f8, f9, f10, f11, f12] r c, rowCell (arO f0 f1 f2 [f3, f4, f5, f6, f7, f8, f9, f10, f11, f12]) ca r (Pz r) c) : Nat × va_E)))).Perm (((rowO ca f0 ++ rowO ca f1) ++ rowO ca f2) ++ rowsO ca [f3, f4, f5, f6, f7, f8, f9, f10, f11, f12]) := by
    rw [show ((rowO ca f0 ++ rowO ca f1) ++ rowO ca f2) ++ rowsO ca [f3, f4, f5, f6, f7, f8, f9, f10, f11, f12] = (List.range 13).flatMap (fun r => rowO ca (arO f0 f1 f2 [f3, f4, f5, f6, f7, f8, f9, f10, f11, f12] r)) by
      simp only [rowsO, List.append_assoc]; rfl]
    exact List.Perm.flatMap_left _ (fun r _ => hr r)
  refine List.Perm.trans ?_ (List.Perm.append_right _ hR.symm)
  have h3 := perm_mid3 (α := Nat × va_E) (q, .inr (9, [.ref (f0 0), .ref (f1 0), .ref (f2 0), .ref h, .ref t, .ref s, .int 0])) (h, .inr (2, [.ref b, .int 0, .int 0])) (b, .inl (ca 3, 10, .inr (.inr (.inr (.inr (fun j => some (([f3, f4, f5, f6, f7, f8, f9, f10, f11, f12].getD j (fun _ => 0)) 0))))))) ((rowO ca f0 ++ rowO ca f1) ++ rowO ca f2) (rowsO ca [f3, f4, f5, f6, f7, f8, f9, f10, f11, f12]) ([(t, .inr (7, [.ref tb, .int 0, .int 0, .int 0, .int 0, .int 0, .int 0, .int 0, .int (-1)])), (tb, .inl (ca 0, 600, .inl fun _ => 0))] ++ [(s, .inr (1, [.ref sb, .int 0, .int 0, .int 0])), (sb, .inl (ca 0, 16, .inl fun _ => 0))])
  rw [← List.append_assoc] at h3
  exact h3
def R1 : RowS := (f_X3_clear 9 Rz 2 50000).getD Rz
theorem R1_eq : f_X3_clear 9 Rz 2 50000 = some R1 := by
  have h : (f_X3_clear 9 Rz 2 50000).isSome = true := by decide +kernel
  unfold R1
  cases hx : f_X3_clear 9 Rz 2 50000 with
  | none => rw [hx] at h; cases h
  | some x => rfl
abbrev rm_X7_init : Room := { frames := 6, cells := 240, slots := 2878, locals := 400 }
set_option maxRecDepth 100000 in
set_option maxHeartbeats 4000000 in
theorem m_X7_init (l : Launch) (D : va_G) (ca : Nat → ClassId) (z : ZG) (us : va_W) (q sz : Nat) : Met l yX7_init (ws_ yX7_init cX7_init 1 none) rm_X7_init (PCz z D ca (us ++ [(q, .inr (9, objD))]) sz [.ref q]) (QEa D (AL (us ++ [(q, .inr (9, objD))]) sz) (fun w => ∃ (ar : Nat → Nat → Nat) (ag : Nat → Nat), ag 0 = q ∧ w = wC ar ag ca (va_up Pz 0 R1) Gz ++ us)) 240 2878 (AL (us ++ [(q, .inr (9, objD))]) sz) := by
  refine met_e (by decide +kernel) (Nat.le_of_ble_eq_true rfl) (fun p e s m args below meth c A K hn0 hr0 hA hZ X ls hl => ?_)
  have K : MC D ca p s m args meth c cX7_init 1 RX7 := K
  have hx := K.1
  have hb := K.2.1
  have hl : lv_has ls 1 [(0, .ref q)] := hl
  generalize hQ : MQ below _ args s 240 2878 _ = Q
  refine lv_aload_n hx hb dX7_init_0 rfl (lv_at hl 0 rfl) ?_
  refine w_oinit K hl.1 q118 q119 q120 (Nat.le_of_ble_eq_true rfl) (Nat.le_of_ble_eq_true rfl) dX7_init_1 ?_
  have X : RX D A (us ++ ((q, .inr (9, [.null, .null, .null, .null, .null, .null, .int 0])) :: [])) s.heap H _ := X
  refine lv_aload_n hx hb dX7_init_4 rfl (lv_at hl 0 rfl) ?_
  refine x_new K hA X iX3 tyX3 tyX3_ok q121 q122 q88 (ci := 5) rfl (fs := rowD) (fun j hj => by rcases j with _ | _ | _ | _ | _ | _ | _ | _ | j <;> first | rfl | omega) (Nat.le_of_ble_eq_true rfl) (Nat.le_of_ble_eq_true rfl) dX7_init_5 (fun r0 H X => ?_)
  refine lv_dup hx hb dX7_init_8 rfl ?_
  refine x_ctor K hA hZ X (m_X3_init l D ca z _ r0 _) hl.1 0 q123 q124 q88 q125 rfl hs_X3_init ⟨⟨(Nat.le_of_ble_eq_true rfl), (Nat.le_of_ble_eq_true rfl)⟩, rfl, rfl⟩ rfl rfl (Nat.le_of_ble_eq_true rfl) dX7_init_9 ⟨(Nat.le_of_ble_eq_true rfl), (Nat.le_of_ble_eq_true rfl)⟩ (fun _ H locs eX X => ?_)
  obtain ⟨f0, hf0, eX⟩ := eX
  subst eX
  subst hf0
  have X : RX D A (us ++ ((q, .inr (9, [.null, .null, .null, .null, .null, .null, .int 0])) :: rowO ca f0)) s.heap H _ := RX.cat X
  refine x_putF K hn0 X iX7 tyX7 tyX7_ok nmX7 (ci := 9) rfl (us.length + 0) (ap_get rfl) 0 (by decide) q361 rfl rfl rfl rfl rfl (Nat.le_of_ble_eq_true rfl) (ap_set rfl) dX7_init_12 (fun H locs X => ?_)
  have X : RX D A (us ++ ((q, .inr (9, [.ref (f0 0), .null, .null, .null, .null, .null, .int 0])) :: rowO ca f0)) s.heap H _ := X
  refine lv_aload_n hx hb dX7_init_15 rfl (lv_at hl 0 rfl) ?_
  refine x_new K hA X iX3 tyX3 tyX3_ok q121 q122 q88 (ci := 5) rfl (fs := rowD) (fun j hj => by rcases j with _ | _ | _ | _ | _ | _ | _ | _ | j <;> first | rfl | omega) (Nat.le_of_ble_eq_true rfl) (Nat.le_of_ble_eq_true rfl) dX7_init_16 (fun r1 H X => ?_)
  refine lv_dup hx hb dX7_init_19 rfl ?_
  refine x_ctor K hA hZ X (m_X3_init l D ca z _ r1 _) hl.1 0 q123 q124 q88 q125 rfl hs_X3_init ⟨⟨(Nat.le_of_ble_eq_true rfl), (Nat.le_of_ble_eq_true rfl)⟩, rfl, rfl⟩ rfl rfl (Nat.le_of_ble_eq_true rfl) dX7_init_20 ⟨(Nat.le_of_ble_eq_true rfl), (Nat.le_of_ble_eq_true rfl)⟩ (fun _ H locs eX X => ?_)
  obtain ⟨f1, hf1, eX⟩ := eX
  subst eX
  subst hf1
  have X : RX D A (us ++ ((q, .inr (9, [.ref (f0 0), .null, .null, .null, .null, .null, .int 0])) :: (rowO ca f0 ++ rowO ca f1))) s.heap H _ := RX.cat X
  refine x_putF K hn0 X iX7 tyX7 tyX7_ok nmX7 (ci := 9) rfl (us.length + 0) (ap_get rfl) 1 (by decide) q362 rfl rfl rfl rfl rfl (Nat.le_of_ble_eq_true rfl) (ap_set rfl) dX7_init_23 (fun H locs X => ?_)
  have X : RX D A (us ++ ((q, .inr (9, [.ref (f0 0), .ref (f1 0), .null, .null, .null, .null, .int 0])) :: (rowO ca f0 ++ rowO ca f1))) s.heap H _ := X
  refine lv_aload_n hx hb dX7_init_26 rfl (lv_at hl 0 rfl) ?_
  refine x_new K hA X iX3 tyX3 tyX3_ok q121 q122 q88 (ci := 5) rfl (fs := rowD) (fun j hj => by rcases j with _ | _ | _ | _ | _ | _ | _ | _ | j <;> first | rfl | omega) (Nat.le_of_ble_eq_true rfl) (Nat.le_of_ble_eq_true rfl) dX7_init_27 (fun r2 H X => ?_)
  refine lv_dup hx hb dX7_init_30 rfl ?_
  refine x_ctor K hA hZ X (m_X3_init l D ca z _ r2 _) hl.1 0 q123 q124 q88 q125 rfl hs_X3_init ⟨⟨(Nat.le_of_ble_eq_true rfl), (Nat.le_of_ble_eq_true rfl)⟩, rfl, rfl⟩ rfl rfl (Nat.le_of_ble_eq_true rfl) dX7_init_31 ⟨(Nat.le_of_ble_eq_true rfl), (Nat.le_of_ble_eq_true rfl)⟩ (fun _ H locs eX X => ?_)
  obtain ⟨f2, hf2, eX⟩ := eX
  subst eX
  subst hf2
  have X : RX D A (us ++ ((q, .inr (9, [.ref (f0 0), .ref (f1 0), .null, .null, .null, .null, .int 0])) :: ((rowO ca f0 ++ rowO ca f1) ++ rowO ca f2))) s.heap H _ := RX.cat X
  refine x_putF K hn0 X iX7 tyX7 tyX7_ok nmX7 (ci := 9) rfl (us.length + 0) (ap_get rfl) 2 (by decide) q363 rfl rfl rfl rfl rfl (Nat.le_of_ble_eq_true rfl) (ap_set rfl) dX7_init_34 (fun H locs X => ?_)
  have X : RX D A (us ++ ((q, .inr (9, [.ref (f0 0), .ref (f1 0), .ref (f2 0), .null, .null, .null, .int 0])) :: ((rowO ca f0 ++ rowO ca f1) ++ rowO ca f2))) s.heap H _ := X
  refine lv_aload_n hx hb dX7_init_37 rfl (lv_at hl 0 rfl) ?_
  refine x_new K hA X iX0 tyX0 tyX0_ok q255 q256 q91 (ci := 2) rfl (fs := hisD) (fun j hj => by rcases j with _ | _ | _ | j <;> first | rfl | omega) (Nat.le_of_ble_eq_true rfl) (Nat.le_of_ble_eq_true rfl) dX7_init_38 (fun h H X => ?_)
  refine lv_dup hx hb dX7_init_41 rfl ?_
  refine x_ctor K hA hZ X (m_X0_init l D ca z _ h _) hl.1 0 q257 q258 q91 q259 rfl hs_X0_init ⟨⟨(Nat.le_of_ble_eq_true rfl), (Nat.le_of_ble_eq_true rfl)⟩, rfl, rfl⟩ rfl rfl (Nat.le_of_ble_eq_true rfl) dX7_init_42 ⟨(Nat.le_of_ble_eq_true rfl), (Nat.le_of_ble_eq_true rfl)⟩ (fun _ H locs eX X => ?_)
  obtain ⟨b, fs, hfs, eX⟩ := eX
  subst eX
  have X : RX D A (us ++ ((q, .inr (9, [.ref (f0 0), .ref (f1 0), .ref (f2 0), .null, .null, .null, .int 0])) :: (((rowO ca f0 ++ rowO ca f1) ++ rowO ca f2) ++ (two ca h b (fun j => some ((fs.getD j (fun _ => 0)) 0)) ++ rowsO ca fs)))) s.heap H _ := RX.cat X
  refine x_putF K hn0 X iX7 tyX7 tyX7_ok nmX7 (ci := 9) rfl (us.length + 0) (ap_get rfl) 3 (by decide) q364 rfl rfl rfl rfl rfl (Nat.le_of_ble_eq_true rfl) (ap_set rfl) dX7_init_45 (fun H locs X => ?_)
  have X : RX D A (us ++ ((q, .inr (9, [.ref (f0 0), .ref (f1 0), .ref (f2 0), .ref h, .null, .null, .int 0])) :: (((rowO ca f0 ++ rowO ca f1) ++ rowO ca f2) ++ (two ca h b (fun j => some ((fs.getD j (fun _ => 0)) 0)) ++ rowsO ca fs)))) s.heap H _ := X
  refine lv_aload_n hx hb dX7_init_48 rfl (lv_at hl 0 rfl) ?_
  refine x_new K hA X iX5 tyX5 tyX5_ok q275 q276 q92 (ci := 7) rfl (fs := tokD) (fun j hj => by rcases j with _ | _ | _ | _ | _ | _ | _ | _ | _ | j <;> first | rfl | omega) (Nat.le_of_ble_eq_true rfl) (Nat.le_of_ble_eq_true rfl) dX7_init_49 (fun t H X => ?_)
  refine lv_dup hx hb dX7_init_52 rfl ?_
  refine x_ctorN K hA hZ X (m_X5_init l D ca z _ t _) hl.1 0 (hZ.2.2.2.2.2.2.2.2.1 _ (List.mem_of_getElem? (i := 2) rfl)) q278 q92 q279 rfl hs_X5_init ⟨⟨(Nat.le_of_ble_eq_true rfl), (Nat.le_of_ble_eq_true rfl)⟩, rfl, rfl⟩ rfl rfl (Nat.le_of_ble_eq_true rfl) dX7_init_53 ⟨(Nat.le_of_ble_eq_true rfl), (Nat.le_of_ble_eq_true rfl)⟩ (fun _ H locs eX X => ?_)
  obtain ⟨tb, eX⟩ := eX
  subst eX
  have X : RX D A (us ++ ((q, .inr (9, [.ref (f0 0), .ref (f1 0), .ref (f2 0), .ref h, .null, .null, .int 0])) :: ((((rowO ca f0 ++ rowO ca f1) ++ rowO ca f2) ++ (two ca h b (fun j => some ((fs.getD j (fun _ => 0)) 0)) ++ rowsO ca fs)) ++ [(t, .inr (7, [.ref tb, .int 0, .int 0, .int 0, .int 0, .int 0, .int 0, .int 0, .int (-1)])), (tb, .inl (ca 0, 600, .inl fun _ => 0))]))) s.heap H _ := RX.cat X
  refine x_putF K hn0 X iX7 tyX7 tyX7_ok nmX7 (ci := 9) rfl (us.length + 0) (ap_get rfl) 4 (by decide) q365 rfl rfl rfl rfl rfl (Nat.le_of_ble_eq_true rfl) (ap_set rfl) dX7_init_56 (fun H locs X => ?_)
  have X : RX D A (us ++ ((q, .inr (9, [.ref (f0 0), .ref (f1 0), .ref (f2 0), .ref h, .ref t, .null, .int 0])) :: ((((rowO ca f0 ++ rowO ca f1) ++ rowO ca f2) ++ (two ca h b (fun j => some ((fs.getD j (fun _ => 0)) 0)) ++ rowsO ca fs)) ++ [(t, .inr (7, [.ref tb, .int 0, .int 0, .int 0, .int 0, .int 0, .int 0, .int 0, .int (-1)])), (tb, .inl (ca 0, 600, .inl fun _ => 0))]))) s.heap H _ := X
  refine lv_aload_n hx hb dX7_init_59 rfl (lv_at hl 0 rfl) ?_
  refine x_new K hA X iJ4 tyJ4 tyJ4_ok q315 q316 q94 (ci := 1) rfl (fs := sbD) (fun j hj => by rcases j with _ | _ | _ | _ | j <;> first | rfl | omega) (Nat.le_of_ble_eq_true rfl) (Nat.le_of_ble_eq_true rfl) dX7_init_60 (fun sq H X => ?_)
  refine lv_dup hx hb dX7_init_63 rfl ?_
  refine x_ctor K hA hZ X (m_J4_init_da8c8 l D ca z _ sq _) hl.1 0 q317 q318 q94 q319 rfl hs_J4_init_da8c8 ⟨⟨(Nat.le_of_ble_eq_true rfl), (Nat.le_of_ble_eq_true rfl)⟩, rfl, rfl⟩ rfl rfl (Nat.le_of_ble_eq_true rfl) dX7_init_64 ⟨(Nat.le_of_ble_eq_true rfl), (Nat.le_of_ble_eq_true rfl)⟩ (fun _ H locs eX X => ?_)
  obtain ⟨sb, eX⟩ := eX
  subst eX
  have X : RX D A (us ++ ((q, .inr (9, [.ref (f0 0), .ref (f1 0), .ref (f2 0), .ref h, .ref t, .null, .int 0])) :: (((((rowO ca f0 ++ rowO ca f1) ++ rowO ca f2) ++ (two ca h b (fun j => some ((fs.getD j (fun _ => 0)) 0)) ++ rowsO ca fs)) ++ [(t, .inr (7, [.ref tb, .int 0, .int 0, .int 0, .int 0, .int 0, .int 0, .int 0, .int (-1)])), (tb, .inl (ca 0, 600, .inl fun _ => 0))]) ++ [(sq, .inr (1, [.ref sb, .int 0, .int 0, .int 0])), (sb, .inl (ca 0, 16, .inl fun _ => 0))]))) s.heap H _ := RX.cat X
  refine x_putF K hn0 X iX7 tyX7 tyX7_ok nmX7 (ci := 9) rfl (us.length + 0) (ap_get rfl) 5 (by decide) q366 rfl rfl rfl rfl rfl (Nat.le_of_ble_eq_true rfl) (ap_set rfl) dX7_init_67 (fun H locs X => ?_)
  have X : RX D A (us ++ ((q, .inr (9, [.ref (f0 0), .ref (f1 0), .ref (f2 0), .ref h, .ref t, .ref sq, .int 0])) :: (((((rowO ca f0 ++ rowO ca f1) ++ rowO ca f2) ++ (two ca h b (fun j => some ((fs.getD j (fun _ => 0)) 0)) ++ rowsO ca fs)) ++ [(t, .inr (7, [.ref tb, .int 0, .int 0, .int 0, .int 0, .int 0, .int 0, .int 0, .int (-1)])), (tb, .inl (ca 0, 600, .inl fun _ => 0))]) ++ [(sq, .inr (1, [.ref sb, .int 0, .int 0, .int 0])), (sb, .inl (ca 0, 16, .inl fun _ => 0))]))) s.heap H _ := X
  have X := X.perm (obj_perm hfs)
  refine lv_aload_n hx hb dX7_init_70 rfl (lv_at hl 0 rfl) ?_
  refine x_get K X iX7 rfl (234 + 0) (pl_glb (k := 0) (by decide)) 0 (by decide) q361 rfl dX7_init_71 ?_
  refine lv_iconst (v := 2) hx hb dX7_init_74 (by decide) ?_
  refine lv_ldc hx hb K.2.2.2.1 (K.2.2.2.2.1 _ q347) dX7_init_75 ?_
  have kx := mC_X3_clear l D ca (arO f0 f1 f2 fs) (agO q h b t tb sq sb) 9 Pz 0 Gz us (by decide) 2 50000 R1 R1_eq H.size
  refine x_callV K hA X kx hl.1 2 q348 q349 q350 q88 q351 hv_X3_clear ⟨⟨(Nat.le_of_ble_eq_true rfl), (Nat.le_of_ble_eq_true rfl)⟩, rfl, rfl⟩ (pl_rowo (by decide)) rfl rfl rfl rfl (Nat.le_of_ble_eq_true rfl) dX7_init_77 ⟨(Nat.le_of_ble_eq_true rfl), (Nat.le_of_ble_eq_true rfl)⟩ (fun H locs X => ?_)
  subst hQ
  exact x_vret K hr0 X ⟨_, _, rfl, rfl⟩ dX7_init_80
def modD : List Value := [.int 0, .null, .null, .null, .null, .null, .null, .null, .null, .int 0, .int 0, .null, .int 0, .int 0, .int 0, .int 0, .int 0, .int 0, .long 0, .int 0, .int 0, .null, .int 0, .null, .null, .null, .int 0, .int 0, .int 0]
def Mz : RowS := (fun c k => match c, k with | 0, 20 => -1 | _, _ => 0, fun _ _ => 0)
def amO (q b1 b2 b3 b4 b5 b6 b7 b8 b11 b21 b23 b24 b25 : Nat) : Nat → Nat
  | 1 => b1
  | 2 => b2
  | 3 => b3
  | 4 => b4
  | 5 => b5
  | 6 => b6
  | 7 => b7
  | 8 => b8
  | 11 => b11
  | 21 => b21
  | 23 => b23
  | 24 => b24
  | 25 => b25
  | _ => q
def M1z : RowS := (f_X8_begins 200 Mz 2 50000).getD Mz
theorem M1z_eq : f_X8_begins 200 Mz 2 50000 = some M1z := by
  have h : (f_X8_begins 200 Mz 2 50000).isSome = true := by decide +kernel
  unfold M1z
  cases hx : f_X8_begins 200 Mz 2 50000 with
  | none => rw [hx] at h; cases h
  | some x => rfl
abbrev rm_X8_init : Room := { frames := 6, cells := 13, slots := 2644, locals := 400 }
set_option maxRecDepth 100000 in
set_option maxHeartbeats 4000000 in
theorem m_X8_init (l : Launch) (D : va_G) (ca : Nat → ClassId) (z : ZG) (us : va_W) (q sz : Nat) : Met l yX8_init (ws_ yX8_init cX8_init 1 none) rm_X8_init (PCz z D ca (us ++ [(q, .inr (10, modD))]) sz [.ref q]) (QEa D (AL (us ++ [(q, .inr (10, modD))]) sz) (fun w => ∃ am : Nat → Nat, am 0 = q ∧ w = wM am ca M1z ++ us)) 13 2644 (AL (us ++ [(q, .inr (10, modD))]) sz) := by
  refine met_e (by decide +kernel) (Nat.le_of_ble_eq_true rfl) (fun p e s m args below meth c A K hn0 hr0 hA hZ X ls hl => ?_)
  have K : MC D ca p s m args meth c cX8_init 1 RX8 := K
  have hx := K.1
  have hb := K.2.1
  have hl : lv_has ls 1 [(0, .ref q)] := hl
  generalize hQ : MQ below _ args s 13 2644 _ = Q
  refine lv_aload_n hx hb dX8_init_0 rfl (lv_at hl 0 rfl) ?_
  refine w_oinit K hl.1 q1389 q119 q120 (Nat.le_of_ble_eq_true rfl) (Nat.le_of_ble_eq_true rfl) dX8_init_1 ?_
  refine lv_aload_n hx hb dX8_init_4 rfl (lv_at hl 0 rfl) ?_
  refine lv_bipush (v := 102) hx hb dX8_init_5 (by decide) ?_
  refine x_newa K hA X (ty := .int) rfl 1 rfl (fun C h => by cases h) q168 (x := .inl fun _ => 0) (fun cA => rfl) (by decide) (N' := 102) (by decide) (by decide) (Nat.le_of_ble_eq_true rfl) (Nat.le_of_ble_eq_true rfl) dX8_init_7 (fun b1 H X => ?_)
  have X : RX D A (us ++ [(q, .inr (10, [.int 0, .null, .null, .null, .null, .null, .null, .null, .null, .int 0, .int 0, .null, .int 0, .int 0, .int 0, .int 0, .int 0, .int 0, .long 0, .int 0, .int 0, .null, .int 0, .null, .null, .null, .int 0, .int 0, .int 0])), (b1, .inl (ca 1, 102, .inl fun _ => 0))]) s.heap H _ := RX.cat X
  refine x_putF K hn0 X iX8 tyX8 tyX8_ok nmX8 (ci := 10) rfl (us.length + 0) (ap_get rfl) 1 (by decide) q1400 rfl rfl rfl rfl rfl (Nat.le_of_ble_eq_true rfl) (ap_set rfl) dX8_init_9 (fun H locs X => ?_)
  have X : RX D A (us ++ [(q, .inr (10, [.int 0, .ref b1, .null, .null, .null, .null, .null, .null, .null, .int 0, .int 0, .null, .int 0, .int 0, .int 0, .int 0, .int 0, .int 0, .long 0, .int 0, .int 0, .null, .int 0, .null, .null, .null, .int 0, .int 0, .int 0])), (b1, .inl (ca 1, 102, .inl fun _ => 0))]) s.heap H _ := X
  refine lv_aload_n hx hb dX8_init_12 rfl (lv_at hl 0 rfl) ?_
  refine lv_bipush (v := 102) hx hb dX8_init_13 (by decide) ?_
  refine x_newa K hA X (ty := .int) rfl 1 rfl (fun C h => by cases h) q168 (x := .inl fun _ => 0) (fun cA => rfl) (by decide) (N' := 102) (by decide) (by decide) (Nat.le_of_ble_eq_true rfl) (Nat.le_of_ble_eq_true rfl) dX8_init_15 (fun b2 H X => ?_)
  have X : RX D A (us ++ [(q, .inr (10, [.int 0, .ref b1, .null, .null, .null, .null, .null, .null, .null, .int 0, .int 0, .null, .int 0, .int 0, .int 0, .int 0, .int 0, .int 0, .long 0, .int 0, .int 0, .null, .int 0, .null, .null, .null, .int 0, .int 0, .int 0])), (b1, .inl (ca 1, 102, .inl fun _ => 0)), (b2, .inl (ca 1, 102, .inl fun _ => 0))]) s.heap H _ := RX.cat X
  refine x_putF K hn0 X iX8 tyX8 tyX8_ok nmX8 (ci := 10) rfl (us.length + 0) (ap_get rfl) 2 (by decide) q1401 rfl rfl rfl rfl rfl (Nat.le_of_ble_eq_true rfl) (ap_set rfl) dX8_init_17 (fun H locs X => ?_)
  have X : RX D A (us ++ [(q, .inr (10, [.int 0, .ref b1, .ref b2, .null, .null, .null, .null, .null, .null, .int 0, .int 0, .null, .int 0, .int 0, .int 0, .int 0, .int 0, .int 0, .long 0, .int 0, .int 0, .null, .int 0, .null, .null, .null, .int 0, .int 0, .int 0])), (b1, .inl (ca 1, 102, .inl fun _ => 0)), (b2, .inl (ca 1, 102, .inl fun _ => 0))]) s.heap H _ := X
  refine lv_aload_n hx hb dX8_init_20 rfl (lv_at hl 0 rfl) ?_
  refine lv_bipush (v := 102) hx hb dX8_init_21 (by decide) ?_
  refine x_newa K hA X (ty := .int) rfl 1 rfl (fun C h => by cases h) q168 (x := .inl fun _ => 0) (fun cA => rfl) (by decide) (N' := 102) (by decide) (by decide) (Nat.le_of_ble_eq_true rfl) (Nat.le_of_ble_eq_true rfl) dX8_init_23 (fun b3 H X => ?_)
  have X : RX D A (us ++ [(q, .inr (10, [.int 0, .ref b1, .ref b2, .null, .null, .null, .null, .null, .null, .int 0, .int 0, .null, .int 0, .int 0, .int 0, .int 0, .int 0, .int 0, .long 0, .int 0, .int 0, .null, .int 0, .null, .null, .null, .int 0, .int 0, .int 0])), (b1, .inl (ca 1, 102, .inl fun _ => 0)), (b2, .inl (ca 1, 102, .inl fun _ => 0)), (b3, .inl (ca 1, 102, .inl fun _ => 0))]) s.heap H _ := RX.cat X
  refine x_putF K hn0 X iX8 tyX8 tyX8_ok nmX8 (ci := 10) rfl (us.length + 0) (ap_get rfl) 3 (by decide) q1402 rfl rfl rfl rfl rfl (Nat.le_of_ble_eq_true rfl) (ap_set rfl) dX8_init_25 (fun H locs X => ?_)
  have X : RX D A (us ++ [(q, .inr (10, [.int 0, .ref b1, .ref b2, .ref b3, .null, .null, .null, .null, .null, .int 0, .int 0, .null, .int 0, .int 0, .int 0, .int 0, .int 0, .int 0, .long 0, .int 0, .int 0, .null, .int 0, .null, .null, .null, .int 0, .int 0, .int 0])), (b1, .inl (ca 1, 102, .inl fun _ => 0)), (b2, .inl (ca 1, 102, .inl fun _ => 0)), (b3, .inl (ca 1, 102, .inl fun _ => 0))]) s.heap H _ := X
  refine lv_aload_n hx hb dX8_init_28 rfl (lv_at hl 0 rfl) ?_
  refine lv_sipush (v := 1020) hx hb dX8_init_29 (by decide) ?_
  refine x_newa K hA X (ty := .int) rfl 1 rfl (fun C h => by cases h) q168 (x := .inl fun _ => 0) (fun cA => rfl) (by decide) (N' := 1020) (by decide) (by decide) (Nat.le_of_ble_eq_true rfl) (Nat.le_of_ble_eq_true rfl) dX8_init_32 (fun b4 H X => ?_)
  have X : RX D A (us ++ [(q, .inr (10, [.int 0, .ref b1, .ref b2, .ref b3, .null, .null, .null, .null, .null, .int 0, .int 0, .null, .int 0, .int 0, .int 0, .int 0, .int 0, .int 0, .long 0, .int 0, .int 0, .null, .int 0, .null, .null, .null, .int 0, .int 0, .int 0])), (b1, .inl (ca 1, 102, .inl fun _ => 0)), (b2, .inl (ca 1, 102, .inl fun _ => 0)), (b3, .inl (ca 1, 102, .inl fun _ => 0)), (b4, .inl (ca 1, 1020, .inl fun _ => 0))]) s.heap H _ := RX.cat X
  refine x_putF K hn0 X iX8 tyX8 tyX8_ok nmX8 (ci := 10) rfl (us.length + 0) (ap_get rfl) 4 (by decide) q1403 rfl rfl rfl rfl rfl (Nat.le_of_ble_eq_true rfl) (ap_set rfl) dX8_init_34 (fun H locs X => ?_)
  have X : RX D A (us ++ [(q, .inr (10, [.int 0, .ref b1, .ref b2, .ref b3, .ref b4, .null, .null, .null, .null, .int 0, .int 0, .null, .int 0, .int 0, .int 0, .int 0, .int 0, .int 0, .long 0, .int 0, .int 0, .null, .int 0, .null, .null, .null, .int 0, .int 0, .int 0])), (b1, .inl (ca 1, 102, .inl fun _ => 0)), (b2, .inl (ca 1, 102, .inl fun _ => 0)), (b3, .inl (ca 1, 102, .inl fun _ => 0)), (b4, .inl (ca 1, 1020, .inl fun _ => 0))]) s.heap H _ := X
  refine lv_aload_n hx hb dX8_init_37 rfl (lv_at hl 0 rfl) ?_
  refine lv_bipush (v := 6) hx hb dX8_init_38 (by decide) ?_
  refine x_newa K hA X (ty := .long) rfl 2 rfl (fun C h => by cases h) q1487 (x := .inr (.inl fun _ => 0)) (fun cA => rfl) (by decide) (N' := 6) (by decide) (by decide) (Nat.le_of_ble_eq_true rfl) (Nat.le_of_ble_eq_true rfl) dX8_init_40 (fun b5 H X => ?_)
  have X : RX D A (us ++ [(q, .inr (10, [.int 0, .ref b1, .ref b2, .ref b3, .ref b4, .null, .null, .null, .null, .int 0, .int 0, .null, .int 0, .int 0, .int 0, .int 0, .int 0, .int 0, .long 0, .int 0, .int 0, .null, .int 0, .null, .null, .null, .int 0, .int 0, .int 0])), (b1, .inl (ca 1, 102, .inl fun _ => 0)), (b2, .inl (ca 1, 102, .inl fun _ => 0)), (b3, .inl (ca 1, 102, .inl fun _ => 0)), (b4, .inl (ca 1, 1020, .inl fun _ => 0)), (b5, .inl (ca 2, 6, .inr (.inl fun _ => 0)))]) s.heap H _ := RX.cat X
  refine x_putF K hn0 X iX8 tyX8 tyX8_ok nmX8 (ci := 10) rfl (us.length + 0) (ap_get rfl) 5 (by decide) q1404 rfl rfl rfl rfl rfl (Nat.le_of_ble_eq_true rfl) (ap_set rfl) dX8_init_42 (fun H locs X => ?_)
  have X : RX D A (us ++ [(q, .inr (10, [.int 0, .ref b1, .ref b2, .ref b3, .ref b4, .ref b5, .null, .null, .null, .int 0, .int 0, .null, .int 0, .int 0, .int 0, .int 0, .int 0, .int 0, .long 0, .int 0, .int 0, .null, .int 0, .null, .null, .null, .int 0, .int 0, .int 0])), (b1, .inl (ca 1, 102, .inl fun _ => 0)), (b2, .inl (ca 1, 102, .inl fun _ => 0)), (b3, .inl (ca 1, 102, .inl fun _ => 0)), (b4, .inl (ca 1, 1020, .inl fun _ => 0)), (b5, .inl (ca 2, 6, .inr (.inl fun _ => 0)))]) s.heap H _ := X
  refine lv_aload_n hx hb dX8_init_45 rfl (lv_at hl 0 rfl) ?_
  refine lv_bipush (v := 6) hx hb dX8_init_46 (by decide) ?_
  refine x_newa K hA X (ty := .long) rfl 2 rfl (fun C h => by cases h) q1487 (x := .inr (.inl fun _ => 0)) (fun cA => rfl) (by decide) (N' := 6) (by decide) (by decide) (Nat.le_of_ble_eq_true rfl) (Nat.le_of_ble_eq_true rfl) dX8_init_48 (fun b6 H X => ?_)
  have X : RX D A (us ++ [(q, .inr (10, [.int 0, .ref b1, .ref b2, .ref b3, .ref b4, .ref b5, .null, .null, .null, .int 0, .int 0, .null, .int 0, .int 0, .int 0, .int 0, .int 0, .int 0, .long 0, .int 0, .int 0, .null, .int 0, .null, .null, .null, .int 0, .int 0, .int 0])), (b1, .inl (ca 1, 102, .inl fun _ => 0)), (b2, .inl (ca 1, 102, .inl fun _ => 0)), (b3, .inl (ca 1, 102, .inl fun _ => 0)), (b4, .inl (ca 1, 1020, .inl fun _ => 0)), (b5, .inl (ca 2, 6, .inr (.inl fun _ => 0))), (b6, .inl (ca 2, 6, .inr (.inl fun _ => 0)))]) s.heap H _ := RX.cat X
  refine x_putF K hn0 X iX8 tyX8 tyX8_ok nmX8 (ci := 10) rfl (us.length + 0) (ap_get rfl) 6 (by decide) q1405 rfl rfl rfl rfl rfl (Nat.le_of_ble_eq_true rfl) (ap_set rfl) dX8_init_50 (fun H locs X => ?_)
  have X : RX D A (us ++ [(q, .inr (10, [.int 0, .ref b1, .ref b2, .ref b3, .ref b4, .ref b5, .ref b6, .null, .null, .int 0, .int 0, .null, .int 0, .int 0, .int 0, .int 0, .int 0, .int 0, .long 0, .int 0, .int 0, .null, .int 0, .null, .null, .null, .int 0, .int 0, .int 0])), (b1, .inl (ca 1, 102, .inl fun _ => 0)), (b2, .inl (ca 1, 102, .inl fun _ => 0)), (b3, .inl (ca 1, 102, .inl fun _ => 0)), (b4, .inl (ca 1, 1020, .inl fun _ => 0)), (b5, .inl (ca 2, 6, .inr (.inl fun _ => 0))), (b6, .inl (ca 2, 6, .inr (.inl fun _ => 0)))]) s.heap H _ := X
  refine lv_aload_n hx hb dX8_init_53 rfl (lv_at hl 0 rfl) ?_
  refine lv_bipush (v := 6) hx hb dX8_init_54 (by decide) ?_
  refine x_newa K hA X (ty := .long) rfl 2 rfl (fun C h => by cases h) q1487 (x := .inr (.inl fun _ => 0)) (fun cA => rfl) (by decide) (N' := 6) (by decide) (by decide) (Nat.le_of_ble_eq_true rfl) (Nat.le_of_ble_eq_true rfl) dX8_init_56 (fun b7 H X => ?_)
  have X : RX D A (us ++ [(q, .inr (10, [.int 0, .ref b1, .ref b2, .ref b3, .ref b4, .ref b5, .ref b6, .null, .null, .int 0, .int 0, .null, .int 0, .int 0, .int 0, .int 0, .int 0, .int 0, .long 0, .int 0, .int 0, .null, .int 0, .null, .null, .null, .int 0, .int 0, .int 0])), (b1, .inl (ca 1, 102, .inl fun _ => 0)), (b2, .inl (ca 1, 102, .inl fun _ => 0)), (b3, .inl (ca 1, 102, .inl fun _ => 0)), (b4, .inl (ca 1, 1020, .inl fun _ => 0)), (b5, .inl (ca 2, 6, .inr (.inl fun _ => 0))), (b6, .inl (ca 2, 6, .inr (.inl fun _ => 0))), (b7, .inl (ca 2, 6, .inr (.inl fun _ => 0)))]) s.heap H _ := RX.cat X
  refine x_putF K hn0 X iX8 tyX8 tyX8_ok nmX8 (ci := 10) rfl (us.length + 0) (ap_get rfl) 7 (by decide) q1406 rfl rfl rfl rfl rfl (Nat.le_of_ble_eq_true rfl) (ap_set rfl) dX8_init_58 (fun H locs X => ?_)
  have X : RX D A (us ++ [(q, .inr (10, [.int 0, .ref b1, .ref b2, .ref b3, .ref b4, .ref b5, .ref b6, .ref b7, .null, .int 0, .int 0, .null, .int 0, .int 0, .int 0, .int 0, .int 0, .int 0, .long 0, .int 0, .int 0, .null, .int 0, .null, .null, .null, .int 0, .int 0, .int 0])), (b1, .inl (ca 1, 102, .inl fun _ => 0)), (b2, .inl (ca 1, 102, .inl fun _ => 0)), (b3, .inl (ca 1, 102, .inl fun _ => 0)), (b4, .inl (ca 1, 1020, .inl fun _ => 0)), (b5, .inl (ca 2, 6, .inr (.inl fun _ => 0))), (b6, .inl (ca 2, 6, .inr (.inl fun _ => 0))), (b7, .inl (ca 2, 6, .inr (.inl fun _ => 0)))]) s.heap H _ := X
  refine lv_aload_n hx hb dX8_init_61 rfl (lv_at hl 0 rfl) ?_
  refine lv_bipush (v := 60) hx hb dX8_init_62 (by decide) ?_
  refine x_newa K hA X (ty := .long) rfl 2 rfl (fun C h => by cases h) q1487 (x := .inr (.inl fun _ => 0)) (fun cA => rfl) (by decide) (N' := 60) (by decide) (by decide) (Nat.le_of_ble_eq_true rfl) (Nat.le_of_ble_eq_true rfl) dX8_init_64 (fun b8 H X => ?_)
  have X : RX D A (us ++ [(q, .inr (10, [.int 0, .ref b1, .ref b2, .ref b3, .ref b4, .ref b5, .ref b6, .ref b7, .null, .int 0, .int 0, .null, .int 0, .int 0, .int 0, .int 0, .int 0, .int 0, .long 0, .int 0, .int 0, .null, .int 0, .null, .null, .null, .int 0, .int 0, .int 0])), (b1, .inl (ca 1, 102, .inl fun _ => 0)), (b2, .inl (ca 1, 102, .inl fun _ => 0)), (b3, .inl (ca 1, 102, .inl fun _ => 0)), (b4, .inl (ca 1, 1020, .inl fun _ => 0)), (b5, .inl (ca 2, 6, .inr (.inl fun _ => 0))), (b6, .inl (ca 2, 6, .inr (.inl fun _ => 0))), (b7, .inl (ca 2, 6, .inr (.inl fun _ => 0))), (b8, .inl (ca 2, 60, .inr (.inl fun _ => 0)))]) s.heap H _ := RX.cat X
  refine x_putF K hn0 X iX8 tyX8 tyX8_ok nmX8 (ci := 10) rfl (us.length + 0) (ap_get rfl) 8 (by decide) q1407 rfl rfl rfl rfl rfl (Nat.le_of_ble_eq_true rfl) (ap_set rfl) dX8_init_66 (fun H locs X => ?_)
  have X : RX D A (us ++ [(q, .inr (10, [.int 0, .ref b1, .ref b2, .ref b3, .ref b4, .ref b5, .ref b6, .ref b7, .ref b8, .int 0, .int 0, .null, .int 0, .int 0, .int 0, .int 0, .int 0, .int 0, .long 0, .int 0, .int 0, .null, .int 0, .null, .null, .null, .int 0, .int 0, .int 0])), (b1, .inl (ca 1, 102, .inl fun _ => 0)), (b2, .inl (ca 1, 102, .inl fun _ => 0)), (b3, .inl (ca 1, 102, .inl fun _ => 0)), (b4, .inl (ca 1, 1020, .inl fun _ => 0)), (b5, .inl (ca 2, 6, .inr (.inl fun _ => 0))), (b6, .inl (ca 2, 6, .inr (.inl fun _ => 0))), (b7, .inl (ca 2, 6, .inr (.inl fun _ => 0))), (b8, .inl (ca 2, 60, .inr (.inl fun _ => 0)))]) s.heap H _ := X
  refine lv_aload_n hx hb dX8_init_69 rfl (lv_at hl 0 rfl) ?_
  refine lv_sipush (v := 600) hx hb dX8_init_70 (by decide) ?_
  refine x_newa K hA X (ty := .int) rfl 1 rfl (fun C h => by cases h) q168 (x := .inl fun _ => 0) (fun cA => rfl) (by decide) (N' := 600) (by decide) (by decide) (Nat.le_of_ble_eq_true rfl) (Nat.le_of_ble_eq_true rfl) dX8_init_73 (fun b11 H X => ?_)
  have X : RX D A (us ++ [(q, .inr (10, [.int 0, .ref b1, .ref b2, .ref b3, .ref b4, .ref b5, .ref b6, .ref b7, .ref b8, .int 0, .int 0, .null, .int 0, .int 0, .int 0, .int 0, .int 0, .int 0, .long 0, .int 0, .int 0, .null, .int 0, .null, .null, .null, .int 0, .int 0, .int 0])), (b1, .inl (ca 1, 102, .inl fun _ => 0)), (b2, .inl (ca 1, 102, .inl fun _ => 0)), (b3, .inl (ca 1, 102, .inl fun _ => 0)), (b4, .inl (ca 1, 1020, .inl fun _ => 0)), (b5, .inl (ca 2, 6, .inr (.inl fun _ => 0))), (b6, .inl (ca 2, 6, .inr (.inl fun _ => 0))), (b7, .inl (ca 2, 6, .inr (.inl fun _ => 0))), (b8, .inl (ca 2, 60, .inr (.inl fun _ => 0))), (b11, .inl (ca 1, 600, .inl fun _ => 0))]) s.heap H _ := RX.cat X
  refine x_putF K hn0 X iX8 tyX8 tyX8_ok nmX8 (ci := 10) rfl (us.length + 0) (ap_get rfl) 11 (by decide) q1410 rfl rfl rfl rfl rfl (Nat.le_of_ble_eq_true rfl) (ap_set rfl) dX8_init_75 (fun H locs X => ?_)
  have X : RX D A (us ++ [(q, .inr (10, [.int 0, .ref b1, .ref b2, .ref b3, .ref b4, .ref b5, .ref b6, .ref b7, .ref b8, .int 0, .int 0, .ref b11, .int 0, .int 0, .int 0, .int 0, .int 0, .int 0, .long 0, .int 0, .int 0, .null, .int 0, .null, .null, .null, .int 0, .int 0, .int 0])), (b1, .inl (ca 1, 102, .inl fun _ => 0)), (b2, .inl (ca 1, 102, .inl fun _ => 0)), (b3, .inl (ca 1, 102, .inl fun _ => 0)), (b4, .inl (ca 1, 1020, .inl fun _ => 0)), (b5, .inl (ca 2, 6, .inr (.inl fun _ => 0))), (b6, .inl (ca 2, 6, .inr (.inl fun _ => 0))), (b7, .inl (ca 2, 6, .inr (.inl fun _ => 0))), (b8, .inl (ca 2, 60, .inr (.inl fun _ => 0))), (b11, .inl (ca 1, 600, .inl fun _ => 0))]) s.heap H _ := X
  refine lv_aload_n hx hb dX8_init_78 rfl (lv_at hl 0 rfl) ?_
  refine lv_iconst (v := -1) hx hb dX8_init_79 (by decide) ?_
  refine x_put K X iX8 tyX8 tyX8_ok nmX8 (ci := 10) rfl (us.length + 0) (ap_get rfl) 20 (by decide) q1419 rfl rfl rfl rfl (Nat.le_of_ble_eq_true rfl) (ap_set rfl) dX8_init_80 (fun H locs X => ?_)
  have X : RX D A (us ++ [(q, .inr (10, [.int 0, .ref b1, .ref b2, .ref b3, .ref b4, .ref b5, .ref b6, .ref b7, .ref b8, .int 0, .int 0, .ref b11, .int 0, .int 0, .int 0, .int 0, .int 0, .int 0, .long 0, .int 0, .int (-1), .null, .int 0, .null, .null, .null, .int 0, .int 0, .int 0])), (b1, .inl (ca 1, 102, .inl fun _ => 0)), (b2, .inl (ca 1, 102, .inl fun _ => 0)), (b3, .inl (ca 1, 102, .inl fun _ => 0)), (b4, .inl (ca 1, 1020, .inl fun _ => 0)), (b5, .inl (ca 2, 6, .inr (.inl fun _ => 0))), (b6, .inl (ca 2, 6, .inr (.inl fun _ => 0))), (b7, .inl (ca 2, 6, .inr (.inl fun _ => 0))), (b8, .inl (ca 2, 60, .inr (.inl fun _ => 0))), (b11, .inl (ca 1, 600, .inl fun _ => 0))]) s.heap H _ := X
  refine lv_aload_n hx hb dX8_init_83 rfl (lv_at hl 0 rfl) ?_
  refine lv_bipush (v := 40) hx hb dX8_init_84 (by decide) ?_
  refine x_newa K hA X (ty := .int) rfl 1 rfl (fun C h => by cases h) q168 (x := .inl fun _ => 0) (fun cA => rfl) (by decide) (N' := 40) (by decide) (by decide) (Nat.le_of_ble_eq_true rfl) (Nat.le_of_ble_eq_true rfl) dX8_init_86 (fun b21 H X => ?_)
  have X : RX D A (us ++ [(q, .inr (10, [.int 0, .ref b1, .ref b2, .ref b3, .ref b4, .ref b5, .ref b6, .ref b7, .ref b8, .int 0, .int 0, .ref b11, .int 0, .int 0, .int 0, .int 0, .int 0, .int 0, .long 0, .int 0, .int (-1), .null, .int 0, .null, .null, .null, .int 0, .int 0, .int 0])), (b1, .inl (ca 1, 102, .inl fun _ => 0)), (b2, .inl (ca 1, 102, .inl fun _ => 0)), (b3, .inl (ca 1, 102, .inl fun _ => 0)), (b4, .inl (ca 1, 1020, .inl fun _ => 0)), (b5, .inl (ca 2, 6, .inr (.inl fun _ => 0))), (b6, .inl (ca 2, 6, .inr (.inl fun _ => 0))), (b7, .inl (ca 2, 6, .inr (.inl fun _ => 0))), (b8, .inl (ca 2, 60, .inr (.inl fun _ => 0))), (b11, .inl (ca 1, 600, .inl fun _ => 0)), (b21, .inl (ca 1, 40, .inl fun _ => 0))]) s.heap H _ := RX.cat X
  refine x_putF K hn0 X iX8 tyX8 tyX8_ok nmX8 (ci := 10) rfl (us.length + 0) (ap_get rfl) 21 (by decide) q1420 rfl rfl rfl rfl rfl (Nat.le_of_ble_eq_true rfl) (ap_set rfl) dX8_init_88 (fun H locs X => ?_)
  have X : RX D A (us ++ [(q, .inr (10, [.int 0, .ref b1, .ref b2, .ref b3, .ref b4, .ref b5, .ref b6, .ref b7, .ref b8, .int 0, .int 0, .ref b11, .int 0, .int 0, .int 0, .int 0, .int 0, .int 0, .long 0, .int 0, .int (-1), .ref b21, .int 0, .null, .null, .null, .int 0, .int 0, .int 0])), (b1, .inl (ca 1, 102, .inl fun _ => 0)), (b2, .inl (ca 1, 102, .inl fun _ => 0)), (b3, .inl (ca 1, 102, .inl fun _ => 0)), (b4, .inl (ca 1, 1020, .inl fun _ => 0)), (b5, .inl (ca 2, 6, .inr (.inl fun _ => 0))), (b6, .inl (ca 2, 6, .inr (.inl fun _ => 0))), (b7, .inl (ca 2, 6, .inr (.inl fun _ => 0))), (b8, .inl (ca 2, 60, .inr (.inl fun _ => 0))), (b11, .inl (ca 1, 600, .inl fun _ => 0)), (b21, .inl (ca 1, 40, .inl fun _ => 0))]) s.heap H _ := X
  refine lv_aload_n hx hb dX8_init_91 rfl (lv_at hl 0 rfl) ?_
  refine lv_sipush (v := 200) hx hb dX8_init_92 (by decide) ?_
  refine x_newa K hA X (ty := .int) rfl 1 rfl (fun C h => by cases h) q168 (x := .inl fun _ => 0) (fun cA => rfl) (by decide) (N' := 200) (by decide) (by decide) (Nat.le_of_ble_eq_true rfl) (Nat.le_of_ble_eq_true rfl) dX8_init_95 (fun b23 H X => ?_)
  have X : RX D A (us ++ [(q, .inr (10, [.int 0, .ref b1, .ref b2, .ref b3, .ref b4, .ref b5, .ref b6, .ref b7, .ref b8, .int 0, .int 0, .ref b11, .int 0, .int 0, .int 0, .int 0, .int 0, .int 0, .long 0, .int 0, .int (-1), .ref b21, .int 0, .null, .null, .null, .int 0, .int 0, .int 0])), (b1, .inl (ca 1, 102, .inl fun _ => 0)), (b2, .inl (ca 1, 102, .inl fun _ => 0)), (b3, .inl (ca 1, 102, .inl fun _ => 0)), (b4, .inl (ca 1, 1020, .inl fun _ => 0)), (b5, .inl (ca 2, 6, .inr (.inl fun _ => 0))), (b6, .inl (ca 2, 6, .inr (.inl fun _ => 0))), (b7, .inl (ca 2, 6, .inr (.inl fun _ => 0))), (b8, .inl (ca 2, 60, .inr (.inl fun _ => 0))), (b11, .inl (ca 1, 600, .inl fun _ => 0)), (b21, .inl (ca 1, 40, .inl fun _ => 0)), (b23, .inl (ca 1, 200, .inl fun _ => 0))]) s.heap H _ := RX.cat X
  refine x_putF K hn0 X iX8 tyX8 tyX8_ok nmX8 (ci := 10) rfl (us.length + 0) (ap_get rfl) 23 (by decide) q1422 rfl rfl rfl rfl rfl (Nat.le_of_ble_eq_true rfl) (ap_set rfl) dX8_init_97 (fun H locs X => ?_)
  have X : RX D A (us ++ [(q, .inr (10, [.int 0, .ref b1, .ref b2, .ref b3, .ref b4, .ref b5, .ref b6, .ref b7, .ref b8, .int 0, .int 0, .ref b11, .int 0, .int 0, .int 0, .int 0, .int 0, .int 0, .long 0, .int 0, .int (-1), .ref b21, .int 0, .ref b23, .null, .null, .int 0, .int 0, .int 0])), (b1, .inl (ca 1, 102, .inl fun _ => 0)), (b2, .inl (ca 1, 102, .inl fun _ => 0)), (b3, .inl (ca 1, 102, .inl fun _ => 0)), (b4, .inl (ca 1, 1020, .inl fun _ => 0)), (b5, .inl (ca 2, 6, .inr (.inl fun _ => 0))), (b6, .inl (ca 2, 6, .inr (.inl fun _ => 0))), (b7, .inl (ca 2, 6, .inr (.inl fun _ => 0))), (b8, .inl (ca 2, 60, .inr (.inl fun _ => 0))), (b11, .inl (ca 1, 600, .inl fun _ => 0)), (b21, .inl (ca 1, 40, .inl fun _ => 0)), (b23, .inl (ca 1, 200, .inl fun _ => 0))]) s.heap H _ := X
  refine lv_aload_n hx hb dX8_init_100 rfl (lv_at hl 0 rfl) ?_
  refine lv_sipush (v := 200) hx hb dX8_init_101 (by decide) ?_
  refine x_newa K hA X (ty := .int) rfl 1 rfl (fun C h => by cases h) q168 (x := .inl fun _ => 0) (fun cA => rfl) (by decide) (N' := 200) (by decide) (by decide) (Nat.le_of_ble_eq_true rfl) (Nat.le_of_ble_eq_true rfl) dX8_init_104 (fun b24 H X => ?_)
  have X : RX D A (us ++ [(q, .inr (10, [.int 0, .ref b1, .ref b2, .ref b3, .ref b4, .ref b5, .ref b6, .ref b7, .ref b8, .int 0, .int 0, .ref b11, .int 0, .int 0, .int 0, .int 0, .int 0, .int 0, .long 0, .int 0, .int (-1), .ref b21, .int 0, .ref b23, .null, .null, .int 0, .int 0, .int 0])), (b1, .inl (ca 1, 102, .inl fun _ => 0)), (b2, .inl (ca 1, 102, .inl fun _ => 0)), (b3, .inl (ca 1, 102, .inl fun _ => 0)), (b4, .inl (ca 1, 1020, .inl fun _ => 0)), (b5, .inl (ca 2, 6, .inr (.inl fun _ => 0))), (b6, .inl (ca 2, 6, .inr (.inl fun _ => 0))), (b7, .inl (ca 2, 6, .inr (.inl fun _ => 0))), (b8, .inl (ca 2, 60, .inr (.inl fun _ => 0))), (b11, .inl (ca 1, 600, .inl fun _ => 0)), (b21, .inl (ca 1, 40, .inl fun _ => 0)), (b23, .inl (ca 1, 200, .inl fun _ => 0)), (b24, .inl (ca 1, 200, .inl fun _ => 0))]) s.heap H _ := RX.cat X
  refine x_putF K hn0 X iX8 tyX8 tyX8_ok nmX8 (ci := 10) rfl (us.length + 0) (ap_get rfl) 24 (by decide) q1423 rfl rfl rfl rfl rfl (Nat.le_of_ble_eq_true rfl) (ap_set rfl) dX8_init_106 (fun H locs X => ?_)
  have X : RX D A (us ++ [(q, .inr (10, [.int 0, .ref b1, .ref b2, .ref b3, .ref b4, .ref b5, .ref b6, .ref b7, .ref b8, .int 0, .int 0, .ref b11, .int 0, .int 0, .int 0, .int 0, .int 0, .int 0, .long 0, .int 0, .int (-1), .ref b21, .int 0, .ref b23, .ref b24, .null, .int 0, .int 0, .int 0])), (b1, .inl (ca 1, 102, .inl fun _ => 0)), (b2, .inl (ca 1, 102, .inl fun _ => 0)), (b3, .inl (ca 1, 102, .inl fun _ => 0)), (b4, .inl (ca 1, 1020, .inl fun _ => 0)), (b5, .inl (ca 2, 6, .inr (.inl fun _ => 0))), (b6, .inl (ca 2, 6, .inr (.inl fun _ => 0))), (b7, .inl (ca 2, 6, .inr (.inl fun _ => 0))), (b8, .inl (ca 2, 60, .inr (.inl fun _ => 0))), (b11, .inl (ca 1, 600, .inl fun _ => 0)), (b21, .inl (ca 1, 40, .inl fun _ => 0)), (b23, .inl (ca 1, 200, .inl fun _ => 0)), (b24, .inl (ca 1, 200, .inl fun _ => 0))]) s.heap H _ := X
  refine lv_aload_n hx hb dX8_init_109 rfl (lv_at hl 0 rfl) ?_
  refine lv_sipush (v := 200) hx hb dX8_init_110 (by decide) ?_
  refine x_newa K hA X (ty := .int) rfl 1 rfl (fun C h => by cases h) q168 (x := .inl fun _ => 0) (fun cA => rfl) (by decide) (N' := 200) (by decide) (by decide) (Nat.le_of_ble_eq_true rfl) (Nat.le_of_ble_eq_true rfl) dX8_init_113 (fun b25 H X => ?_)
  have X : RX D A (us ++ [(q, .inr (10, [.int 0, .ref b1, .ref b2, .ref b3, .ref b4, .ref b5, .ref b6, .ref b7, .ref b8, .int 0, .int 0, .ref b11, .int 0, .int 0, .int 0, .int 0, .int 0, .int 0, .long 0, .int 0, .int (-1), .ref b21, .int 0, .ref b23, .ref b24, .null, .int 0, .int 0, .int 0])), (b1, .inl (ca 1, 102, .inl fun _ => 0)), (b2, .inl (ca 1, 102, .inl fun _ => 0)), (b3, .inl (ca 1, 102, .inl fun _ => 0)), (b4, .inl (ca 1, 1020, .inl fun _ => 0)), (b5, .inl (ca 2, 6, .inr (.inl fun _ => 0))), (b6, .inl (ca 2, 6, .inr (.inl fun _ => 0))), (b7, .inl (ca 2, 6, .inr (.inl fun _ => 0))), (b8, .inl (ca 2, 60, .inr (.inl fun _ => 0))), (b11, .inl (ca 1, 600, .inl fun _ => 0)), (b21, .inl (ca 1, 40, .inl fun _ => 0)), (b23, .inl (ca 1, 200, .inl fun _ => 0)), (b24, .inl (ca 1, 200, .inl fun _ => 0)), (b25, .inl (ca 1, 200, .inl fun _ => 0))]) s.heap H _ := RX.cat X
  refine x_putF K hn0 X iX8 tyX8 tyX8_ok nmX8 (ci := 10) rfl (us.length + 0) (ap_get rfl) 25 (by decide) q1424 rfl rfl rfl rfl rfl (Nat.le_of_ble_eq_true rfl) (ap_set rfl) dX8_init_115 (fun H locs X => ?_)
  have X : RX D A (us ++ [(q, .inr (10, [.int 0, .ref b1, .ref b2, .ref b3, .ref b4, .ref b5, .ref b6, .ref b7, .ref b8, .int 0, .int 0, .ref b11, .int 0, .int 0, .int 0, .int 0, .int 0, .int 0, .long 0, .int 0, .int (-1), .ref b21, .int 0, .ref b23, .ref b24, .ref b25, .int 0, .int 0, .int 0])), (b1, .inl (ca 1, 102, .inl fun _ => 0)), (b2, .inl (ca 1, 102, .inl fun _ => 0)), (b3, .inl (ca 1, 102, .inl fun _ => 0)), (b4, .inl (ca 1, 1020, .inl fun _ => 0)), (b5, .inl (ca 2, 6, .inr (.inl fun _ => 0))), (b6, .inl (ca 2, 6, .inr (.inl fun _ => 0))), (b7, .inl (ca 2, 6, .inr (.inl fun _ => 0))), (b8, .inl (ca 2, 60, .inr (.inl fun _ => 0))), (b11, .inl (ca 1, 600, .inl fun _ => 0)), (b21, .inl (ca 1, 40, .inl fun _ => 0)), (b23, .inl (ca 1, 200, .inl fun _ => 0)), (b24, .inl (ca 1, 200, .inl fun _ => 0)), (b25, .inl (ca 1, 200, .inl fun _ => 0))]) s.heap H _ := X
  refine lv_aload_n hx hb dX8_init_118 rfl (lv_at hl 0 rfl) ?_
  have X : RX D A (wM (amO q b1 b2 b3 b4 b5 b6 b7 b8 b11 b21 b23 b24 b25) ca Mz ++ us) s.heap H _ := X.perm List.perm_append_comm
  refine lv_iconst (v := 2) hx hb dX8_init_119 (by decide) ?_
  refine lv_ldc hx hb K.2.2.2.1 (K.2.2.2.2.1 _ q1390) dX8_init_120 ?_
  have kx := m_X8_begins l D ca (amO q b1 b2 b3 b4 b5 b6 b7 b8 b11 b21 b23 b24 b25) 200 Mz us 2 50000 M1z M1z_eq H.size
  refine x_callV K hA X kx hl.1 2 q1391 q1393 q19 q97 q1394 hv_X8_begins ⟨⟨(Nat.le_of_ble_eq_true rfl), (Nat.le_of_ble_eq_true rfl)⟩, rfl, rfl⟩ pl_modo rfl rfl rfl rfl (Nat.le_of_ble_eq_true rfl) dX8_init_122 ⟨(Nat.le_of_ble_eq_true rfl), (Nat.le_of_ble_eq_true rfl)⟩ (fun H locs X => ?_)
  subst hQ
  exact x_vret K hr0 X ⟨_, rfl, rfl⟩ dX8_init_125
