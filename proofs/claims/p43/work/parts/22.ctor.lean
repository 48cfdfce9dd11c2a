/-! CTOR: the constructors -/
def legD : List Value := [.int 0, .int 0, .int 0, .long 0, .long 0, .long 0, .long 0]
def tubeD : List Value := tubeFs (fun _ => 0)
def rowD : List Value := [.int 0, .int 0, .int 0, .null, .null, .null, .null, .null]
def Rz : RowS := (fun _ _ => 0, fun _ _ => 0)
def rowOrd : List Nat := [0, 1, 2, 3, 4, 17, 5, 6, 7, 8, 9, 10, 11, 12, 13, 14, 15, 16]
def rowO (ca : Nat → ClassId) (f : Nat → Nat) : va_W := rowOrd.map (fun c => (f c, rowCell (fun _ => f) ca 0 Rz c))
theorem RX.cat {D : va_G} {A : Nat → Prop} {us L M : va_W} {H0 H : Heap} {locs : List Loc} (X : RX D A ((us ++ L) ++ M) H0 H locs) : RX D A (us ++ (L ++ M)) H0 H locs := by rw [← List.append_assoc]; exact X
theorem n12 : ∀ k, k < 12 → ¬ (12 : Int32) ≤ nI k ∧ (nI k).toNatClampNeg = k ∧ nI k + 1 = nI (k + 1) := by decide +kernel
theorem in12 {k : Nat} (h : k < 12) : vp_in (nI k) 12 := vp_in_iff.mpr (by rw [nI_toInt (by omega)]; omega)
theorem n10 : ∀ k, k < 10 → ¬ (10 : Int32) ≤ nI k ∧ (nI k).toNatClampNeg = k ∧ nI k + 1 = nI (k + 1) := by decide +kernel
theorem in10 {k : Nat} (h : k < 10) : vp_in (nI k) 10 := vp_in_iff.mpr (by rw [nI_toInt (by omega)]; omega)
theorem up_as {as : List Nat} {a k : Nat} (hk : k = as.length) : va_up (fun j => as[j]?) k (some a) = fun j => (as ++ [a])[j]? := by
  subst hk
  funext j
  by_cases hj : j = as.length
  · subst hj; rw [va_up_self]; simp
  · rw [va_up_ne _ _ hj]
    by_cases h2 : j < as.length
    · rw [List.getElem?_append_left h2]
    · rw [List.getElem?_eq_none (by omega), List.getElem?_eq_none (by simp; omega)]
abbrev rm_X1_init : Room := { frames := 1, cells := 0, slots := 0, locals := 40 }
theorem m_X1_init (l : Launch) (D : va_G) (ca : Nat → ClassId) (z : ZG) (ws : va_W) (q sz : Nat) : Met l yX1_init (ws_ yX1_init cX1_init 1 none) rm_X1_init (PCz z D ca ws sz [.ref q]) (QEa D (AL ws sz) (fun w => w = ws)) 0 0 (AL ws sz) := by
  refine met_e (by decide +kernel) (Nat.le_of_ble_eq_true rfl) (fun p e s m args below meth c A K hn0 hr0 hA hZ X ls hl => ?_)
  have K : MC D ca p s m args meth c cX1_init 1 RX1 := K
  have hx := K.1
  have hb := K.2.1
  have hl : lv_has ls 1 [(0, .ref q)] := hl
  refine lv_aload_n hx hb dX1_init_0 rfl (lv_at hl 0 rfl) ?_
  refine w_oinit K hl.1 q54 q41 q42 (Nat.le_of_ble_eq_true rfl) (Nat.le_of_ble_eq_true rfl) dX1_init_1 ?_
  exact x_vret K hr0 X rfl dX1_init_4
abbrev rm_X6_init : Room := { frames := 1, cells := 0, slots := 0, locals := 40 }
theorem m_X6_init (l : Launch) (D : va_G) (ca : Nat → ClassId) (z : ZG) (ws : va_W) (q sz : Nat) : Met l yX6_init (ws_ yX6_init cX6_init 1 none) rm_X6_init (PCz z D ca ws sz [.ref q]) (QEa D (AL ws sz) (fun w => w = ws)) 0 0 (AL ws sz) := by
  refine met_e (by decide +kernel) (Nat.le_of_ble_eq_true rfl) (fun p e s m args below meth c A K hn0 hr0 hA hZ X ls hl => ?_)
  have K : MC D ca p s m args meth c cX6_init 1 RX6 := K
  have hx := K.1
  have hb := K.2.1
  have hl : lv_has ls 1 [(0, .ref q)] := hl
  refine lv_aload_n hx hb dX6_init_0 rfl (lv_at hl 0 rfl) ?_
  refine w_oinit K hl.1 q97 q41 q42 (Nat.le_of_ble_eq_true rfl) (Nat.le_of_ble_eq_true rfl) dX6_init_1 ?_
  exact x_vret K hr0 X rfl dX6_init_4
abbrev rm_X3_init : Room := { frames := 3, cells := 17, slots := 164, locals := 120 }
def six (ca : Nat → ClassId) (q a1 a2 a3 a4 a5 : Nat) (F : Nat → Option Nat) : va_W := [(q, .inr (5, [.int 0, .int 0, .int 0, .ref a1, .ref a2, .ref a3, .ref a4, .ref a5])), (a1, .inl (ca 1, 8, .inl fun _ => 0)), (a2, .inr (3, legD)), (a3, .inr (3, legD)), (a4, .inl (ca 4, 12, .inr (.inr (.inr (.inr F))))), (a5, .inr (8, tubeD))]
def tubesO (as : List Nat) : va_W := as.map (fun a => (a, .inr (8, tubeD)))
def fRow (q a1 a2 a3 a4 a5 : Nat) (as : List Nat) : Nat → Nat
  | 0 => q
  | 1 => a1
  | 2 => a2
  | 3 => a3
  | 4 => a4
  | 17 => a5
  | c => as.getD (c - 5) 0
theorem fRow_t {q a1 a2 a3 a4 a5 : Nat} {as : List Nat} {j : Nat} (h : j < 12) : fRow q a1 a2 a3 a4 a5 as (j + 5) = as.getD j 0 := by
  rcases j with _ | _ | _ | _ | _ | _ | _ | _ | _ | _ | _ | _ | j <;> first | rfl | omega
theorem rowO_eq {ca : Nat → ClassId} {q a1 a2 a3 a4 a5 : Nat} {as : List Nat} (h : as.length = 12) : rowO ca (fRow q a1 a2 a3 a4 a5 as) = six ca q a1 a2 a3 a4 a5 (fun j => some (fRow q a1 a2 a3 a4 a5 as (j + 5))) ++ tubesO as := by
  rcases as with _ | ⟨b0, _ | ⟨b1, _ | ⟨b2, _ | ⟨b3, _ | ⟨b4, _ | ⟨b5, _ | ⟨b6, _ | ⟨b7, _ | ⟨b8, _ | ⟨b9, _ | ⟨b10, _ | ⟨b11, _ | ⟨b12, t⟩⟩⟩⟩⟩⟩⟩⟩⟩⟩⟩⟩⟩ <;> simp at h
  rfl
set_option maxRecDepth 100000 in
set_option maxHeartbeats 4000000 in
theorem m_X3_init (l : Launch) (D : va_G) (ca : Nat → ClassId) (z : ZG) (us : va_W) (q sz : Nat) : Met l yX3_init (ws_ yX3_init cX3_init 2 none) rm_X3_init (PCz z D ca (us ++ [(q, .inr (5, rowD))]) sz [.ref q]) (QEa D (AL (us ++ [(q, .inr (5, rowD))]) sz) (fun w => ∃ f : Nat → Nat, f 0 = q ∧ w = us ++ rowO ca f)) 17 164 (AL (us ++ [(q, .inr (5, rowD))]) sz) := by
  refine met_e (by decide +kernel) (Nat.le_of_ble_eq_true rfl) (fun p e s m args below meth c A K hn0 hr0 hA hZ X ls hl => ?_)
  have K : MC D ca p s m args meth c cX3_init 2 RX3 := K
  have hx := K.1
  have hb := K.2.1
  have hl : lv_has ls 2 [(0, .ref q)] := hl
  generalize hQ : MQ below _ args s 17 164 _ = Q
  refine lv_aload_n hx hb dX3_init_0 rfl (lv_at hl 0 rfl) ?_
  refine w_oinit K hl.1 q48 q41 q42 (Nat.le_of_ble_eq_true rfl) (Nat.le_of_ble_eq_true rfl) dX3_init_1 ?_
  refine lv_aload_n hx hb dX3_init_4 rfl (lv_at hl 0 rfl) ?_
  refine lv_bipush (v := 8) hx hb dX3_init_5 (by decide) ?_
  refine x_newa K hA X (ty := .int) rfl 1 rfl (fun C h => by cases h) q90 (x := .inl fun _ => 0) (fun cA => rfl) (by decide) (N' := 8) (by decide) (by decide) (Nat.le_of_ble_eq_true rfl) (Nat.le_of_ble_eq_true rfl) dX3_init_7 (fun a1 H X => ?_)
  have X : RX D A (us ++ [(q, .inr (5, [.int 0, .int 0, .int 0, .null, .null, .null, .null, .null])), (a1, .inl (ca 1, 8, .inl fun _ => 0))]) s.heap H _ := RX.cat X
  refine x_putF K hn0 X iX3 tyX3 tyX3_ok nmX3 (ci := 5) rfl (us.length + 0) (ap_get rfl) 3 (by decide) q152 rfl rfl rfl rfl rfl (Nat.le_of_ble_eq_true rfl) (ap_set rfl) dX3_init_9 (fun H locs X => ?_)
  have X : RX D A (us ++ [(q, .inr (5, [.int 0, .int 0, .int 0, .ref a1, .null, .null, .null, .null])), (a1, .inl (ca 1, 8, .inl fun _ => 0))]) s.heap H _ := X
  refine lv_aload_n hx hb dX3_init_12 rfl (lv_at hl 0 rfl) ?_
  refine x_new K hA X iX1 tyX1 tyX1_ok q49 q50 q18 (ci := 3) rfl (fs := legD) (fun j hj => by rcases j with _ | _ | _ | _ | _ | _ | _ | j <;> first | rfl | omega) (Nat.le_of_ble_eq_true rfl) (Nat.le_of_ble_eq_true rfl) dX3_init_13 (fun a2 H X => ?_)
  have X : RX D A (us ++ [(q, .inr (5, [.int 0, .int 0, .int 0, .ref a1, .null, .null, .null, .null])), (a1, .inl (ca 1, 8, .inl fun _ => 0)), (a2, .inr (3, legD))]) s.heap H _ := RX.cat X
  refine lv_dup hx hb dX3_init_16 rfl ?_
  refine x_ctorN K hA hZ X (m_X1_init l D ca z _ a2 _) hl.1 0 (hZ.2.2.2.2.2.1 _ (List.mem_of_getElem? (i := 0) rfl)) q52 q18 q53 rfl hs_X1_init ⟨⟨(Nat.le_of_ble_eq_true rfl), (Nat.le_of_ble_eq_true rfl)⟩, rfl, rfl⟩ rfl rfl (Nat.le_of_ble_eq_true rfl) dX3_init_17 ⟨(Nat.le_of_ble_eq_true rfl), (Nat.le_of_ble_eq_true rfl)⟩ (fun ws H locs eX X => ?_)
  subst eX
  refine x_putF K hn0 X iX3 tyX3 tyX3_ok nmX3 (ci := 5) rfl (us.length + 0) (ap_get rfl) 4 (by decide) q153 rfl rfl rfl rfl rfl (Nat.le_of_ble_eq_true rfl) (ap_set rfl) dX3_init_20 (fun H locs X => ?_)
  have X : RX D A (us ++ [(q, .inr (5, [.int 0, .int 0, .int 0, .ref a1, .ref a2, .null, .null, .null])), (a1, .inl (ca 1, 8, .inl fun _ => 0)), (a2, .inr (3, legD))]) s.heap H _ := X
  refine lv_aload_n hx hb dX3_init_23 rfl (lv_at hl 0 rfl) ?_
  refine x_new K hA X iX1 tyX1 tyX1_ok q49 q50 q18 (ci := 3) rfl (fs := legD) (fun j hj => by rcases j with _ | _ | _ | _ | _ | _ | _ | j <;> first | rfl | omega) (Nat.le_of_ble_eq_true rfl) (Nat.le_of_ble_eq_true rfl) dX3_init_24 (fun a3 H X => ?_)
  have X : RX D A (us ++ [(q, .inr (5, [.int 0, .int 0, .int 0, .ref a1, .ref a2, .null, .null, .null])), (a1, .inl (ca 1, 8, .inl fun _ => 0)), (a2, .inr (3, legD)), (a3, .inr (3, legD))]) s.heap H _ := RX.cat X
  refine lv_dup hx hb dX3_init_27 rfl ?_
  refine x_ctorN K hA hZ X (m_X1_init l D ca z _ a3 _) hl.1 0 (hZ.2.2.2.2.2.1 _ (List.mem_of_getElem? (i := 0) rfl)) q52 q18 q53 rfl hs_X1_init ⟨⟨(Nat.le_of_ble_eq_true rfl), (Nat.le_of_ble_eq_true rfl)⟩, rfl, rfl⟩ rfl rfl (Nat.le_of_ble_eq_true rfl) dX3_init_28 ⟨(Nat.le_of_ble_eq_true rfl), (Nat.le_of_ble_eq_true rfl)⟩ (fun ws H locs eX X => ?_)
  subst eX
  refine x_putF K hn0 X iX3 tyX3 tyX3_ok nmX3 (ci := 5) rfl (us.length + 0) (ap_get rfl) 5 (by decide) q154 rfl rfl rfl rfl rfl (Nat.le_of_ble_eq_true rfl) (ap_set rfl) dX3_init_31 (fun H locs X => ?_)
  have X : RX D A (us ++ [(q, .inr (5, [.int 0, .int 0, .int 0, .ref a1, .ref a2, .ref a3, .null, .null])), (a1, .inl (ca 1, 8, .inl fun _ => 0)), (a2, .inr (3, legD)), (a3, .inr (3, legD))]) s.heap H _ := X
  refine lv_aload_n hx hb dX3_init_34 rfl (lv_at hl 0 rfl) ?_
  refine lv_bipush (v := 12) hx hb dX3_init_35 (by decide) ?_
  refine x_newq K hA X q91 hZ.2.2.2.2.2.2.2 4 rfl (by decide) (N' := 12) (by decide) (by decide) (Nat.le_of_ble_eq_true rfl) (Nat.le_of_ble_eq_true rfl) dX3_init_37 (fun a4 H X => ?_)
  have X : RX D A (us ++ [(q, .inr (5, [.int 0, .int 0, .int 0, .ref a1, .ref a2, .ref a3, .null, .null])), (a1, .inl (ca 1, 8, .inl fun _ => 0)), (a2, .inr (3, legD)), (a3, .inr (3, legD)), (a4, .inl (ca 4, 12, .inr (.inr (.inr (.inr fun _ => none)))))]) s.heap H _ := RX.cat X
  refine x_putF K hn0 X iX3 tyX3 tyX3_ok nmX3 (ci := 5) rfl (us.length + 0) (ap_get rfl) 6 (by decide) q155 rfl rfl rfl rfl rfl (Nat.le_of_ble_eq_true rfl) (ap_set rfl) dX3_init_40 (fun H locs X => ?_)
  have X : RX D A (us ++ [(q, .inr (5, [.int 0, .int 0, .int 0, .ref a1, .ref a2, .ref a3, .ref a4, .null])), (a1, .inl (ca 1, 8, .inl fun _ => 0)), (a2, .inr (3, legD)), (a3, .inr (3, legD)), (a4, .inl (ca 4, 12, .inr (.inr (.inr (.inr fun _ => none)))))]) s.heap H _ := X
  refine lv_aload_n hx hb dX3_init_43 rfl (lv_at hl 0 rfl) ?_
  refine x_new K hA X iX6 tyX6 tyX6_ok q91 q93 q19 (ci := 8) rfl (fs := tubeD) (fun j hj => by rcases j with _ | _ | _ | _ | _ | _ | _ | _ | _ | _ | j <;> first | rfl | omega) (Nat.le_of_ble_eq_true rfl) (Nat.le_of_ble_eq_true rfl) dX3_init_44 (fun a5 H X => ?_)
  have X : RX D A (us ++ [(q, .inr (5, [.int 0, .int 0, .int 0, .ref a1, .ref a2, .ref a3, .ref a4, .null])), (a1, .inl (ca 1, 8, .inl fun _ => 0)), (a2, .inr (3, legD)), (a3, .inr (3, legD)), (a4, .inl (ca 4, 12, .inr (.inr (.inr (.inr fun _ => none))))), (a5, .inr (8, tubeD))]) s.heap H _ := RX.cat X
  refine lv_dup hx hb dX3_init_47 rfl ?_
  refine x_ctorN K hA hZ X (m_X6_init l D ca z _ a5 _) hl.1 0 (hZ.2.2.2.2.2.1 _ (List.mem_of_getElem? (i := 1) rfl)) q95 q19 q96 rfl hs_X6_init ⟨⟨(Nat.le_of_ble_eq_true rfl), (Nat.le_of_ble_eq_true rfl)⟩, rfl, rfl⟩ rfl rfl (Nat.le_of_ble_eq_true rfl) dX3_init_48 ⟨(Nat.le_of_ble_eq_true rfl), (Nat.le_of_ble_eq_true rfl)⟩ (fun ws H locs eX X => ?_)
  subst eX
  refine x_putF K hn0 X iX3 tyX3 tyX3_ok nmX3 (ci := 5) rfl (us.length + 0) (ap_get rfl) 7 (by decide) q156 rfl rfl rfl rfl rfl (Nat.le_of_ble_eq_true rfl) (ap_set rfl) dX3_init_51 (fun H locs X => ?_)
  have X : RX D A (us ++ (six ca q a1 a2 a3 a4 a5 (fun j => ([] : List Nat)[j]?) ++ tubesO [])) s.heap H _ := X
  refine lv_iconst (v := 0) hx hb dX3_init_54 (by decide) ?_
  refine lv_istore_n (lv' := [(1, .int 0), (0, .ref q)]) hx hb dX3_init_55 rfl hl (by decide) rfl (fun ls hl => ?_)
  have KL : ∀ (d : Nat) (as : List Nat) (hd : as.length + d = 12) (H : Heap) (locs : List Loc) (cells slots : Nat) (hc : cells = 5 + as.length) (hs : slots = 44 + 10 * as.length) (X : RX D A (us ++ (six ca q a1 a2 a3 a4 a5 (fun j => as[j]?) ++ tubesO as)) s.heap H locs) (ls : Array Slot) (hl : lv_has ls 2 [(1, .int (nI as.length)), (0, .ref q)]), W p l e rm_X3_init s m args below meth c H locs cells slots Q (F0 m 56 ls []) := by
    intro d
    induction d with
    | zero =>
      intro as hd H locs cells slots hc hs X ls hl
      have h12 : as.length = 12 := by omega
      refine lv_iload_n hx hb dX3_init_56 rfl (lv_at hl 0 rfl) ?_
      refine lv_aload_n hx hb dX3_init_57 rfl (lv_at hl 1 rfl) ?_
      refine x_get K X iX3 rfl (us.length + 0) (ap_get rfl) 6 (by decide) q155 rfl dX3_init_58 ?_
      refine x_alen K X (t0 := 4) (us.length + 4) (ap_get rfl) rfl (v := 12) rfl dX3_init_61 ?_
      refine lv_icmp_ge (tgt := 84) hx hb dX3_init_62 (by decide) (fun _ => ?_) (fun c1 => absurd (by rw [h12]; decide) c1)
      have X := X.arr (q0 := us.length + 4) (ap_get rfl) (F' := fun j => some (fRow q a1 a2 a3 a4 a5 as (j + 5))) (fun j hj => by rw [fRow_t hj, List.getElem?_eq_getElem (by omega), List.getD_eq_getElem?_getD, List.getElem?_eq_getElem (by omega)]; rfl)
      have X : RX D A (us ++ rowO ca (fRow q a1 a2 a3 a4 a5 as)) s.heap H locs := by
        rw [rowO_eq h12]
        exact (ap_set (us := us) (j := 4) (L := six ca q a1 a2 a3 a4 a5 (fun j => as[j]?) ++ tubesO as) (L' := six ca q a1 a2 a3 a4 a5 (fun j => some (fRow q a1 a2 a3 a4 a5 as (j + 5))) ++ tubesO as) rfl) ▸ X
      have e1 : cells = 17 := by omega
      have e2 : slots = 164 := by omega
      subst e1; subst e2; subst hQ
      exact x_vret K hr0 X ⟨_, rfl, rfl⟩ dX3_init_84
    | succ d ih =>
      intro as hd H locs cells slots hc hs X ls hl
      have hk : as.length < 12 := by omega
      obtain ⟨k1_, k2_, k3_⟩ := n12 _ hk
      refine lv_iload_n hx hb dX3_init_56 rfl (lv_at hl 0 rfl) ?_
      refine lv_aload_n hx hb dX3_init_57 rfl (lv_at hl 1 rfl) ?_
      refine x_get K X iX3 rfl (us.length + 0) (ap_get rfl) 6 (by decide) q155 rfl dX3_init_58 ?_
      refine x_alen K X (t0 := 4) (us.length + 4) (ap_get rfl) rfl (v := 12) rfl dX3_init_61 ?_
      refine lv_icmp_ge (tgt := 84) hx hb dX3_init_62 (by decide) (fun c1 => absurd c1 k1_) (fun _ => ?_)
      refine lv_aload_n hx hb dX3_init_65 rfl (lv_at hl 1 rfl) ?_
      refine x_get K X iX3 rfl (us.length + 0) (ap_get rfl) 6 (by decide) q155 rfl dX3_init_66 ?_
      refine lv_iload_n hx hb dX3_init_69 rfl (lv_at hl 0 rfl) ?_
      refine x_new K hA X iX6 tyX6 tyX6_ok q91 q93 q19 (ci := 8) rfl (fs := tubeD) (fun j hj => by rcases j with _ | _ | _ | _ | _ | _ | _ | _ | _ | _ | j <;> first | rfl | omega) (by show cells + 1 ≤ 17; omega) (by show slots + 10 ≤ 164; omega) dX3_init_70 (fun b H X => ?_)
      refine lv_dup hx hb dX3_init_73 rfl ?_
      refine x_ctorN K hA hZ X (m_X6_init l D ca z _ b _) hl.1 0 (hZ.2.2.2.2.2.1 _ (List.mem_of_getElem? (i := 1) rfl)) q95 q19 q96 rfl hs_X6_init ⟨⟨(Nat.le_of_ble_eq_true rfl), (Nat.le_of_ble_eq_true rfl)⟩, rfl, rfl⟩ rfl rfl (Nat.le_of_ble_eq_true rfl) dX3_init_74 ⟨(by show cells + 1 + 0 ≤ 17; omega), (by show slots + 10 + 0 ≤ 164; omega)⟩ (fun ws H locs eX X => ?_)
      subst eX
      have X : RX D A (us ++ (six ca q a1 a2 a3 a4 a5 (fun j => as[j]?) ++ (tubesO as ++ [(b, .inr (8, tubeD))]))) s.heap H locs := by rw [← List.append_assoc, ← List.append_assoc]; rw [← List.append_assoc] at X; exact X
      have hqk : (us ++ (six ca q a1 a2 a3 a4 a5 (fun j => as[j]?) ++ (tubesO as ++ [(b, .inr (8, tubeD))])))[us.length + (6 + as.length)]? = some (b, .inr (8, tubeD)) := ap_get (by
        rw [List.getElem?_append_right (by simp [six]), List.getElem?_append_right (by simp [six, tubesO])]
        simp [six, tubesO])
      refine x_astq K X (us.length + 4) 4 (us.length + (6 + as.length)) 8 (ap_get rfl) rfl hqk rfl (in12 hk) (ap_set rfl) dX3_init_77 (fun H locs X => ?_)
      rw [k2_, up_as rfl] at X
      have X : RX D A (us ++ (six ca q a1 a2 a3 a4 a5 (fun j => (as ++ [b])[j]?) ++ tubesO (as ++ [b]))) s.heap H locs := by
        rw [show tubesO (as ++ [b]) = tubesO as ++ [(b, .inr (8, tubeD))] by simp [tubesO]]
        exact X
      refine lv_iinc (v := nI (as.length + 1)) (lv' := [(1, .int (nI (as.length + 1))), (0, .ref q)]) hx hb dX3_init_78 hl (k := 0) rfl (by rw [← k3_]; rfl) (by decide) rfl (fun ls hl => ?_)
      refine lv_goto (tgt := 56) hx hb dX3_init_81 (by decide) ?_
      exact ih (as ++ [b]) (by simp; omega) H locs _ _ (by simp; omega) (by simp; omega) X ls (by rw [List.length_append]; exact hl)
  exact KL 12 [] rfl H _ _ _ rfl rfl X ls hl
