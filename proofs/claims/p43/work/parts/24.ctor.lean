/-! CTOR, the objects -/
def objD : List Value := [.null, .null, .null, .null, .null, .null, .int 0]
def arO (f0 f1 f2 : Nat → Nat) (fs : List (Nat → Nat)) : Nat → Nat → Nat
  | 0 => f0
  | 1 => f1
  | 2 => f2
  | n + 3 => fs.getD n (fun _ => 0)
def agO (q h b t tb s sb lo lt : Nat) : Nat → Nat
  | 0 => q
  | 1 => h
  | 2 => b
  | 3 => t
  | 4 => tb
  | 5 => s
  | 6 => sb
  | 7 => lo
  | _ => lt
def Gz : GlbS
  | 3, 8 => -1
  | _, _ => 0
def Pz : RowsS := fun _ => Rz
theorem rowCell_own {ar : Nat → Nat → Nat} {ca : Nat → ClassId} {r c : Nat} {R : RowS} : rowCell ar ca r R c = rowCell (fun _ => ar r) ca 0 R c := by
  unfold rowCell; split <;> rfl
theorem rowO_perm {ar : Nat → Nat → Nat} {ca : Nat → ClassId} {r : Nat} : ((List.range 18).map (fun c => ((ar r c, rowCell ar ca r Rz c) : Nat × va_E))).Perm (rowO ca (ar r)) := by
  have h : (List.range 18).Perm rowOrd := by decide +kernel
  have e : (fun c => ((ar r c, rowCell ar ca r Rz c) : Nat × va_E)) = (fun c => (ar r c, rowCell (fun _ => ar r) ca 0 Rz c)) := by
    funext c; rw [rowCell_own]
  rw [e]
  exact h.map _
theorem wC_eq {ar : Nat → Nat → Nat} {ag : Nat → Nat} {ca : Nat → ClassId} {P : RowsS} {G : GlbS} : wC ar ag ca P G = (List.range 13).flatMap (fun r => (List.range 18).map (fun c => (ar r c, rowCell ar ca r (P r) c))) ++ (List.range 9).map (fun k => (ag k, glbCell ar ag ca G k)) := by
  unfold wC
  congr 1
theorem perm_fm {α β : Type} (l : List α) (f g : α → List β) (h : ∀ a ∈ l, (f a).Perm (g a)) : (l.flatMap f).Perm (l.flatMap g) := by
  induction l with
  | nil => exact List.Perm.refl _
  | cons a t ih =>
    rw [List.flatMap_cons, List.flatMap_cons]
    exact List.Perm.append (h a List.mem_cons_self) (ih (fun b hb => h b (List.mem_cons_of_mem _ hb)))
theorem perm_mid3 {α : Type} (a b c : α) (X Y t : List α) : (a :: ((X ++ ([b, c] ++ Y)) ++ t)).Perm ((X ++ Y) ++ (a :: b :: c :: t)) := by
  refine List.Perm.trans ?_ (List.perm_middle (l₁ := X ++ Y) (a := a) (l₂ := b :: c :: t)).symm
  refine List.Perm.cons a ?_
  have h1 : ((X ++ ([b, c] ++ Y)) ++ t) = X ++ (b :: c :: (Y ++ t)) := by simp
  rw [h1]
  have e1 : (X ++ (b :: c :: (Y ++ t))).Perm (b :: c :: (X ++ (Y ++ t))) := List.perm_middle.trans (List.Perm.cons b List.perm_middle)
  have e2 : ((X ++ Y) ++ (b :: c :: t)).Perm (b :: c :: ((X ++ Y) ++ t)) := List.perm_middle.trans (List.Perm.cons b List.perm_middle)
  refine e1.trans (List.Perm.trans ?_ e2.symm)
  rw [List.append_assoc]
abbrev law2 (ca : Nat → ClassId) (lo lt : Nat) : va_W := [(lo, .inr (10, [.ref lt, .int 0])), (lt, .inl (ca 1, 700, .inl fun _ => 0))]
theorem obj_perm {ca : Nat → ClassId} {q h b t tb s sb lo lt : Nat} {f0 f1 f2 : Nat → Nat} {fs : List (Nat → Nat)} (hl : fs.length = 10) :
    (law2 ca lo lt ++ ((q, .inr (9, [.ref (f0 0), .ref (f1 0), .ref (f2 0), .ref h, .ref t, .ref s, .int 0])) :: (((((rowO ca f0 ++ rowO ca f1) ++ rowO ca f2) ++ (two ca h b (fun j => some ((fs.getD j (fun _ => 0)) 0)) ++ rowsO ca fs)) ++ [(t, .inr (7, [.ref tb, .int 0, .int 0, .int 0, .int 0, .int 0, .int 0, .int 0, .int (-1)])), (tb, .inl (ca 0, 600, .inl fun _ => 0))]) ++ [(s, .inr (1, [.ref sb, .int 0, .int 0, .int 0])), (sb, .inl (ca 0, 16, .inl fun _ => 0))])) : va_W).Perm (wC (arO f0 f1 f2 fs) (agO q h b t tb s sb lo lt) ca Pz Gz ++ []) := by
  refine List.perm_append_comm.trans ?_
  rw [List.append_nil, wC_eq]
  rcases fs with _ | ⟨f3, _ | ⟨f4, _ | ⟨f5, _ | ⟨f6, _ | ⟨f7, _ | ⟨f8, _ | ⟨f9, _ | ⟨f10, _ | ⟨f11, _ | ⟨f12, _ | ⟨f13, tl⟩⟩⟩⟩⟩⟩⟩⟩⟩⟩⟩ <;> simp at hl
  have hr : ∀ r : Nat, ((List.range 18).map (fun c => ((arO f0 f1 f2 [f3, f4, f5, f6, f7, f8, f9, f10, f11, f12] r c, rowCell (arO f0 f1 f2 [f3, f4, f5, f6, f7, f8, f9, f10, f11, f12]) ca r (Pz r) c) : Nat × va_E))).Perm (rowO ca (arO f0 f1 f2 [f3, f4, f5, f6, f7, f8, f9, f10, f11, f12] r)) := fun r => rowO_perm
  have hR : ((List.range 13).flatMap (fun r => (List.range 18).map (fun c => ((arO f0 f1 f2 [f3, f4, f5, f6, f7, f8, f9, f10, f11, f12] r c, rowCell (arO f0 f1 f2 [f3, f4, f5, f6, f7, f8, f9, f10, f11, f12]) ca r (Pz r) c) : Nat × va_E)))).Perm (((rowO ca f0 ++ rowO ca f1) ++ rowO ca f2) ++ rowsO ca [f3, f4, f5, f6, f7, f8, f9, f10, f11, f12]) := by
    rw [show ((rowO ca f0 ++ rowO ca f1) ++ rowO ca f2) ++ rowsO ca [f3, f4, f5, f6, f7, f8, f9, f10, f11, f12] = (List.range 13).flatMap (fun r => rowO ca (arO f0 f1 f2 [f3, f4, f5, f6, f7, f8, f9, f10, f11, f12] r)) by
      simp only [rowsO, List.append_assoc]; rfl]
    exact perm_fm _ _ _ (fun r _ => hr r)
  refine List.Perm.trans ?_ (List.Perm.append_right _ hR.symm)
  have h3 := perm_mid3 (α := Nat × va_E) (q, .inr (9, [.ref (f0 0), .ref (f1 0), .ref (f2 0), .ref h, .ref t, .ref s, .int 0])) (h, .inr (2, [.ref b, .int 0, .int 0])) (b, .inl (ca 3, 10, .inr (.inr (.inr (.inr (fun j => some (([f3, f4, f5, f6, f7, f8, f9, f10, f11, f12].getD j (fun _ => 0)) 0))))))) ((rowO ca f0 ++ rowO ca f1) ++ rowO ca f2) (rowsO ca [f3, f4, f5, f6, f7, f8, f9, f10, f11, f12]) ([(t, .inr (7, [.ref tb, .int 0, .int 0, .int 0, .int 0, .int 0, .int 0, .int 0, .int (-1)])), (tb, .inl (ca 0, 600, .inl fun _ => 0))] ++ ([(s, .inr (1, [.ref sb, .int 0, .int 0, .int 0])), (sb, .inl (ca 0, 16, .inl fun _ => 0))] ++ law2 ca lo lt))
  rw [← List.append_assoc, ← List.append_assoc] at h3
  exact h3
def R1 : RowS := (f_X3_clear 9 Rz 2 50000).getD Rz
theorem R1_eq : f_X3_clear 9 Rz 2 50000 = some R1 := by
  have h : (f_X3_clear 9 Rz 2 50000).isSome = true := by decide +kernel
  unfold R1
  cases hx : f_X3_clear 9 Rz 2 50000 with
  | none => rw [hx] at h; cases h
  | some x => rfl
abbrev rm_X7_init : Room := { frames := 6, cells := 240, slots := 2878, locals := 400 }
set_option maxRecDepth 100000 in
set_option maxHeartbeats 4000000 in
theorem m_X7_init (l : Launch) (D : va_G) (ca : Nat → ClassId) (z : ZG) (us : va_W) (q lo lt : Nat) (hus : us = law2 ca lo lt) (sz : Nat) : Met l yX7_init (ws_ yX7_init cX7_init 1 none) rm_X7_init (PCz z D ca (us ++ [(q, .inr (9, objD))]) sz [.ref q]) (QEa D (AL (us ++ [(q, .inr (9, objD))]) sz) (fun w => ∃ (ar : Nat → Nat → Nat) (ag : Nat → Nat), ag 0 = q ∧ ag 7 = lo ∧ w = wC ar ag ca (va_up Pz 0 R1) Gz ++ [])) 240 2878 (AL (us ++ [(q, .inr (9, objD))]) sz) := by
  refine met_e (by decide +kernel) (Nat.le_of_ble_eq_true rfl) (fun p e s m args below meth c A K hn0 hr0 hA hZ X ls hl => ?_)
  have K : MC D ca p s m args meth c cX7_init 1 RX7 := K
  have hx := K.1
  have hb := K.2.1
  have hl : lv_has ls 1 [(0, .ref q)] := hl
  generalize hQ : MQ below _ args s 240 2878 _ = Q
  refine lv_aload_n hx hb dX7_init_0 rfl (lv_at hl 0 rfl) ?_
  refine w_oinit K hl.1 q40 q41 q42 (Nat.le_of_ble_eq_true rfl) (Nat.le_of_ble_eq_true rfl) dX7_init_1 ?_
  have X : RX D A (us ++ ((q, .inr (9, [.null, .null, .null, .null, .null, .null, .int 0])) :: [])) s.heap _ _ := X
  refine lv_aload_n hx hb dX7_init_4 rfl (lv_at hl 0 rfl) ?_
  refine x_new K hA X iX3 tyX3 tyX3_ok q43 q44 q17 (ci := 5) rfl (fs := rowD) (fun j hj => by rcases j with _ | _ | _ | _ | _ | _ | _ | _ | j <;> first | rfl | omega) (Nat.le_of_ble_eq_true rfl) (Nat.le_of_ble_eq_true rfl) dX7_init_5 (fun r0 H X => ?_)
  refine lv_dup hx hb dX7_init_8 rfl ?_
  refine x_ctor K hA hZ X (m_X3_init l D ca z _ r0 _) hl.1 0 q45 q46 q17 q47 rfl hs_X3_init ⟨⟨(Nat.le_of_ble_eq_true rfl), (Nat.le_of_ble_eq_true rfl)⟩, rfl, rfl⟩ rfl rfl (Nat.le_of_ble_eq_true rfl) dX7_init_9 ⟨(Nat.le_of_ble_eq_true rfl), (Nat.le_of_ble_eq_true rfl)⟩ (fun _ H locs eX X => ?_)
  obtain ⟨f0, hf0, eX⟩ := eX
  subst eX
  have X9 := RX.cat X
  subst hf0
  have X : RX D A (us ++ ((q, .inr (9, [.null, .null, .null, .null, .null, .null, .int 0])) :: rowO ca f0)) s.heap _ _ := X9
  refine x_putF K hn0 X iX7 tyX7 tyX7_ok nmX7 (ci := 9) rfl (us.length + 0) (ap_get rfl) 0 (by decide) q274 rfl rfl rfl rfl rfl (Nat.le_of_ble_eq_true rfl) (ap_set rfl) dX7_init_12 (fun H locs X => ?_)
  have X : RX D A (us ++ ((q, .inr (9, [.ref (f0 0), .null, .null, .null, .null, .null, .int 0])) :: rowO ca f0)) s.heap _ _ := X
  refine lv_aload_n hx hb dX7_init_15 rfl (lv_at hl 0 rfl) ?_
  refine x_new K hA X iX3 tyX3 tyX3_ok q43 q44 q17 (ci := 5) rfl (fs := rowD) (fun j hj => by rcases j with _ | _ | _ | _ | _ | _ | _ | _ | j <;> first | rfl | omega) (Nat.le_of_ble_eq_true rfl) (Nat.le_of_ble_eq_true rfl) dX7_init_16 (fun r1 H X => ?_)
  refine lv_dup hx hb dX7_init_19 rfl ?_
  refine x_ctor K hA hZ X (m_X3_init l D ca z _ r1 _) hl.1 0 q45 q46 q17 q47 rfl hs_X3_init ⟨⟨(Nat.le_of_ble_eq_true rfl), (Nat.le_of_ble_eq_true rfl)⟩, rfl, rfl⟩ rfl rfl (Nat.le_of_ble_eq_true rfl) dX7_init_20 ⟨(Nat.le_of_ble_eq_true rfl), (Nat.le_of_ble_eq_true rfl)⟩ (fun _ H locs eX X => ?_)
  obtain ⟨f1, hf1, eX⟩ := eX
  subst eX
  have X9 := RX.cat X
  subst hf1
  have X : RX D A (us ++ ((q, .inr (9, [.ref (f0 0), .null, .null, .null, .null, .null, .int 0])) :: (rowO ca f0 ++ rowO ca f1))) s.heap _ _ := X9
  refine x_putF K hn0 X iX7 tyX7 tyX7_ok nmX7 (ci := 9) rfl (us.length + 0) (ap_get rfl) 1 (by decide) q275 rfl rfl rfl rfl rfl (Nat.le_of_ble_eq_true rfl) (ap_set rfl) dX7_init_23 (fun H locs X => ?_)
  have X : RX D A (us ++ ((q, .inr (9, [.ref (f0 0), .ref (f1 0), .null, .null, .null, .null, .int 0])) :: (rowO ca f0 ++ rowO ca f1))) s.heap _ _ := X
  refine lv_aload_n hx hb dX7_init_26 rfl (lv_at hl 0 rfl) ?_
  refine x_new K hA X iX3 tyX3 tyX3_ok q43 q44 q17 (ci := 5) rfl (fs := rowD) (fun j hj => by rcases j with _ | _ | _ | _ | _ | _ | _ | _ | j <;> first | rfl | omega) (Nat.le_of_ble_eq_true rfl) (Nat.le_of_ble_eq_true rfl) dX7_init_27 (fun r2 H X => ?_)
  refine lv_dup hx hb dX7_init_30 rfl ?_
  refine x_ctor K hA hZ X (m_X3_init l D ca z _ r2 _) hl.1 0 q45 q46 q17 q47 rfl hs_X3_init ⟨⟨(Nat.le_of_ble_eq_true rfl), (Nat.le_of_ble_eq_true rfl)⟩, rfl, rfl⟩ rfl rfl (Nat.le_of_ble_eq_true rfl) dX7_init_31 ⟨(Nat.le_of_ble_eq_true rfl), (Nat.le_of_ble_eq_true rfl)⟩ (fun _ H locs eX X => ?_)
  obtain ⟨f2, hf2, eX⟩ := eX
  subst eX
  have X9 := RX.cat X
  subst hf2
  have X : RX D A (us ++ ((q, .inr (9, [.ref (f0 0), .ref (f1 0), .null, .null, .null, .null, .int 0])) :: ((rowO ca f0 ++ rowO ca f1) ++ rowO ca f2))) s.heap _ _ := X9
  refine x_putF K hn0 X iX7 tyX7 tyX7_ok nmX7 (ci := 9) rfl (us.length + 0) (ap_get rfl) 2 (by decide) q276 rfl rfl rfl rfl rfl (Nat.le_of_ble_eq_true rfl) (ap_set rfl) dX7_init_34 (fun H locs X => ?_)
  have X : RX D A (us ++ ((q, .inr (9, [.ref (f0 0), .ref (f1 0), .ref (f2 0), .null, .null, .null, .int 0])) :: ((rowO ca f0 ++ rowO ca f1) ++ rowO ca f2))) s.heap _ _ := X
  refine lv_aload_n hx hb dX7_init_37 rfl (lv_at hl 0 rfl) ?_
  refine x_new K hA X iX0 tyX0 tyX0_ok q174 q175 q20 (ci := 2) rfl (fs := hisD) (fun j hj => by rcases j with _ | _ | _ | j <;> first | rfl | omega) (Nat.le_of_ble_eq_true rfl) (Nat.le_of_ble_eq_true rfl) dX7_init_38 (fun h H X => ?_)
  refine lv_dup hx hb dX7_init_41 rfl ?_
  refine x_ctor K hA hZ X (m_X0_init l D ca z _ h _) hl.1 0 q176 q177 q20 q178 rfl hs_X0_init ⟨⟨(Nat.le_of_ble_eq_true rfl), (Nat.le_of_ble_eq_true rfl)⟩, rfl, rfl⟩ rfl rfl (Nat.le_of_ble_eq_true rfl) dX7_init_42 ⟨(Nat.le_of_ble_eq_true rfl), (Nat.le_of_ble_eq_true rfl)⟩ (fun _ H locs eX X => ?_)
  obtain ⟨b, fs, hfs, eX⟩ := eX
  subst eX
  have X : RX D A (us ++ ((q, .inr (9, [.ref (f0 0), .ref (f1 0), .ref (f2 0), .null, .null, .null, .int 0])) :: (((rowO ca f0 ++ rowO ca f1) ++ rowO ca f2) ++ (two ca h b (fun j => some ((fs.getD j (fun _ => 0)) 0)) ++ rowsO ca fs)))) s.heap _ _ := RX.cat X
  refine x_putF K hn0 X iX7 tyX7 tyX7_ok nmX7 (ci := 9) rfl (us.length + 0) (ap_get rfl) 3 (by decide) q277 rfl rfl rfl rfl rfl (Nat.le_of_ble_eq_true rfl) (ap_set rfl) dX7_init_45 (fun H locs X => ?_)
  have X : RX D A (us ++ ((q, .inr (9, [.ref (f0 0), .ref (f1 0), .ref (f2 0), .ref h, .null, .null, .int 0])) :: (((rowO ca f0 ++ rowO ca f1) ++ rowO ca f2) ++ (two ca h b (fun j => some ((fs.getD j (fun _ => 0)) 0)) ++ rowsO ca fs)))) s.heap _ _ := X
  refine lv_aload_n hx hb dX7_init_48 rfl (lv_at hl 0 rfl) ?_
  refine x_new K hA X iX5 tyX5 tyX5_ok q193 q194 q21 (ci := 7) rfl (fs := tokD) (fun j hj => by rcases j with _ | _ | _ | _ | _ | _ | _ | _ | _ | j <;> first | rfl | omega) (Nat.le_of_ble_eq_true rfl) (Nat.le_of_ble_eq_true rfl) dX7_init_49 (fun t H X => ?_)
  refine lv_dup hx hb dX7_init_52 rfl ?_
  refine x_ctorN K hA hZ X (m_X5_init l D ca z _ t _) hl.1 0 (hZ.2.2.2.2.2.1 _ (List.mem_of_getElem? (i := 2) rfl)) q196 q21 q197 rfl hs_X5_init ⟨⟨(Nat.le_of_ble_eq_true rfl), (Nat.le_of_ble_eq_true rfl)⟩, rfl, rfl⟩ rfl rfl (Nat.le_of_ble_eq_true rfl) dX7_init_53 ⟨(Nat.le_of_ble_eq_true rfl), (Nat.le_of_ble_eq_true rfl)⟩ (fun _ H locs eX X => ?_)
  obtain ⟨tb, eX⟩ := eX
  subst eX
  have X : RX D A (us ++ ((q, .inr (9, [.ref (f0 0), .ref (f1 0), .ref (f2 0), .ref h, .null, .null, .int 0])) :: ((((rowO ca f0 ++ rowO ca f1) ++ rowO ca f2) ++ (two ca h b (fun j => some ((fs.getD j (fun _ => 0)) 0)) ++ rowsO ca fs)) ++ [(t, .inr (7, [.ref tb, .int 0, .int 0, .int 0, .int 0, .int 0, .int 0, .int 0, .int (-1)])), (tb, .inl (ca 0, 600, .inl fun _ => 0))]))) s.heap _ _ := RX.cat X
  refine x_putF K hn0 X iX7 tyX7 tyX7_ok nmX7 (ci := 9) rfl (us.length + 0) (ap_get rfl) 4 (by decide) q278 rfl rfl rfl rfl rfl (Nat.le_of_ble_eq_true rfl) (ap_set rfl) dX7_init_56 (fun H locs X => ?_)
  have X : RX D A (us ++ ((q, .inr (9, [.ref (f0 0), .ref (f1 0), .ref (f2 0), .ref h, .ref t, .null, .int 0])) :: ((((rowO ca f0 ++ rowO ca f1) ++ rowO ca f2) ++ (two ca h b (fun j => some ((fs.getD j (fun _ => 0)) 0)) ++ rowsO ca fs)) ++ [(t, .inr (7, [.ref tb, .int 0, .int 0, .int 0, .int 0, .int 0, .int 0, .int 0, .int (-1)])), (tb, .inl (ca 0, 600, .inl fun _ => 0))]))) s.heap _ _ := X
  refine lv_aload_n hx hb dX7_init_59 rfl (lv_at hl 0 rfl) ?_
  refine x_new K hA X iJ4 tyJ4 tyJ4_ok q231 q232 q23 (ci := 1) rfl (fs := sbD) (fun j hj => by rcases j with _ | _ | _ | _ | j <;> first | rfl | omega) (Nat.le_of_ble_eq_true rfl) (Nat.le_of_ble_eq_true rfl) dX7_init_60 (fun sq H X => ?_)
  refine lv_dup hx hb dX7_init_63 rfl ?_
  refine x_ctor K hA hZ X (m_J4_init_da8c8 l D ca z _ sq _) hl.1 0 q233 q234 q23 q235 rfl hs_J4_init_da8c8 ⟨⟨(Nat.le_of_ble_eq_true rfl), (Nat.le_of_ble_eq_true rfl)⟩, rfl, rfl⟩ rfl rfl (Nat.le_of_ble_eq_true rfl) dX7_init_64 ⟨(Nat.le_of_ble_eq_true rfl), (Nat.le_of_ble_eq_true rfl)⟩ (fun _ H locs eX X => ?_)
  obtain ⟨sb, eX⟩ := eX
  subst eX
  have X : RX D A (us ++ ((q, .inr (9, [.ref (f0 0), .ref (f1 0), .ref (f2 0), .ref h, .ref t, .null, .int 0])) :: (((((rowO ca f0 ++ rowO ca f1) ++ rowO ca f2) ++ (two ca h b (fun j => some ((fs.getD j (fun _ => 0)) 0)) ++ rowsO ca fs)) ++ [(t, .inr (7, [.ref tb, .int 0, .int 0, .int 0, .int 0, .int 0, .int 0, .int 0, .int (-1)])), (tb, .inl (ca 0, 600, .inl fun _ => 0))]) ++ [(sq, .inr (1, [.ref sb, .int 0, .int 0, .int 0])), (sb, .inl (ca 0, 16, .inl fun _ => 0))]))) s.heap _ _ := RX.cat X
  refine x_putF K hn0 X iX7 tyX7 tyX7_ok nmX7 (ci := 9) rfl (us.length + 0) (ap_get rfl) 5 (by decide) q279 rfl rfl rfl rfl rfl (Nat.le_of_ble_eq_true rfl) (ap_set rfl) dX7_init_67 (fun H locs X => ?_)
  have X : RX D A (us ++ ((q, .inr (9, [.ref (f0 0), .ref (f1 0), .ref (f2 0), .ref h, .ref t, .ref sq, .int 0])) :: (((((rowO ca f0 ++ rowO ca f1) ++ rowO ca f2) ++ (two ca h b (fun j => some ((fs.getD j (fun _ => 0)) 0)) ++ rowsO ca fs)) ++ [(t, .inr (7, [.ref tb, .int 0, .int 0, .int 0, .int 0, .int 0, .int 0, .int 0, .int (-1)])), (tb, .inl (ca 0, 600, .inl fun _ => 0))]) ++ [(sq, .inr (1, [.ref sb, .int 0, .int 0, .int 0])), (sb, .inl (ca 0, 16, .inl fun _ => 0))]))) s.heap _ _ := X
  subst hus
  have X := X.perm (obj_perm hfs)
  refine lv_aload_n hx hb dX7_init_70 rfl (lv_at hl 0 rfl) ?_
  refine x_get K X iX7 rfl (234 + 0) (pl_glb (k := 0) (by decide)) 0 (by decide) q274 rfl dX7_init_71 ?_
  refine lv_iconst (v := 2) hx hb dX7_init_74 (by decide) ?_
  refine lv_ldc hx hb K.2.2.2.1 (K.2.2.2.2.1 _ q260) dX7_init_75 ?_
  have kx := mC_X3_clear l D ca (arO f0 f1 f2 fs) (agO q h b t tb sq sb lo lt) 9 Pz 0 Gz [] (by decide) 2 50000 R1 R1_eq H.size
  refine x_callV K hA X kx hl.1 2 q261 q262 q263 q17 q264 hv_X3_clear ⟨⟨(Nat.le_of_ble_eq_true rfl), (Nat.le_of_ble_eq_true rfl)⟩, rfl, rfl⟩ (pl_rowo (by decide)) rfl rfl rfl rfl (Nat.le_of_ble_eq_true rfl) dX7_init_77 ⟨(Nat.le_of_ble_eq_true rfl), (Nat.le_of_ble_eq_true rfl)⟩ (fun H locs X => ?_)
  subst hQ
  exact x_vret K hr0 X ⟨_, _, rfl, rfl, rfl⟩ dX7_init_80
def lawD : List Value := [.null, .int 0]
abbrev rm_L_init : Room := { frames := 1, cells := 1, slots := 700, locals := 40 }
set_option maxRecDepth 100000 in
set_option maxHeartbeats 4000000 in
theorem m_L_init (l : Launch) (D : va_G) (ca : Nat → ClassId) (z : ZG) (us : va_W) (q sz : Nat) : Met l yL_init (ws_ yL_init cL_init 1 none) rm_L_init (PCz z D ca (us ++ [(q, .inr (10, lawD))]) sz [.ref q]) (QEa D (AL (us ++ [(q, .inr (10, lawD))]) sz) (fun w => ∃ b : Nat, w = us ++ [(q, .inr (10, [.ref b, .int 0])), (b, .inl (ca 1, 700, .inl fun _ => 0))])) 1 700 (AL (us ++ [(q, .inr (10, lawD))]) sz) := by
  refine met_e (by decide +kernel) (Nat.le_of_ble_eq_true rfl) (fun p e s m args below meth c A K hn0 hr0 hA hZ X ls hl => ?_)
  have K : MC D ca p s m args meth c cL_init 1 RL := K
  have hx := K.1
  have hb := K.2.1
  have hl : lv_has ls 1 [(0, .ref q)] := hl
  generalize hQ : MQ below _ args s 1 700 _ = Q
  refine lv_aload_n hx hb dL_init_0 rfl (lv_at hl 0 rfl) ?_
  refine w_oinit K hl.1 q301 q41 q42 (Nat.le_of_ble_eq_true rfl) (Nat.le_of_ble_eq_true rfl) dL_init_1 ?_
  refine lv_aload_n hx hb dL_init_4 rfl (lv_at hl 0 rfl) ?_
  refine lv_sipush (v := 700) hx hb dL_init_5 (by decide) ?_
  refine x_newa K hA X (ty := .int) rfl 1 rfl (fun C h => by cases h) q90 (x := .inl fun _ => 0) (fun cA => rfl) (by decide) (N' := 700) (by decide) (by decide) (Nat.le_of_ble_eq_true rfl) (Nat.le_of_ble_eq_true rfl) dL_init_8 (fun b H X => ?_)
  have X : RX D A (us ++ [(q, .inr (10, lawD)), (b, .inl (ca 1, 700, .inl fun _ => 0))]) s.heap H _ := RX.cat X
  refine x_putF K hn0 X iXL tyL tyL_ok nmL (ci := 10) rfl (us.length + 0) (ap_get rfl) 0 (by decide) q302 rfl rfl rfl rfl rfl (Nat.le_of_ble_eq_true rfl) (ap_set rfl) dL_init_10 (fun H locs X => ?_)
  subst hQ
  exact x_vret K hr0 X ⟨b, rfl⟩ dL_init_13
