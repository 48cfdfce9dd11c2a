/-! START: the law's own body -/
set_option maxRecDepth 100000 in
set_option maxHeartbeats 4000000 in
theorem law_begin {p : Program} {l : Launch} {e : Env} {s : State} {m : MethodId} {args : Array Value} {below : List Frame} {meth : Method} {c : Code} {Q : State → Prop} {D : va_G} {A : Nat → Prop} {ca : Nat → ClassId} {z : ZG} (K : MC D ca p s m args meth c cL_law 3 RL) (hA : ∀ q, s.heap.size ≤ q → A q) (hZ : ZF z A s s.heap) {P' P2 : RowsS} {G' G2 : GlbS} (h1 : f_L_loads z (va_up Pz 0 R1) Gz = some (true, P', G')) (h2 : f_L_holds z P' G' = some (true, P2, G2)) (kend : ∀ (H : Heap) (locs : List Loc) (ls : Array Slot) (ws : va_W), RX D A ws s.heap H locs → W p l e room_1 s m args below meth c H locs 600086 7301442 Q (F0 m 38 ls [.int 1])) {ls : Array Slot} (hl : lv_has ls 3 [(0, .ref z.2.2.1)]) (X : RX D A [] s.heap s.heap []) : W p l e room_1 s m args below meth c s.heap [] 0 0 Q (F0 m 0 ls []) := by
  have hx := K.1
  have hb := K.2.1
  refine x_new K hA X iXL tyL tyL_ok q296 q297 q15 (ci := 10) rfl (fs := lawD) (fun j hj => by rcases j with _ | _ | j <;> first | rfl | omega) (Nat.le_of_ble_eq_true rfl) (Nat.le_of_ble_eq_true rfl) dL_law_0 (fun q H X => ?_)
  refine lv_dup hx hb dL_law_3 rfl ?_
  refine x_ctor K hA hZ X (m_L_init l D ca z _ q _) hl.1 0 q298 q299 q15 q300 rfl hs_L_init ⟨⟨(Nat.le_of_ble_eq_true rfl), (Nat.le_of_ble_eq_true rfl)⟩, rfl, rfl⟩ rfl rfl (Nat.le_of_ble_eq_true rfl) dL_law_4 ⟨(Nat.le_of_ble_eq_true rfl), (Nat.le_of_ble_eq_true rfl)⟩ (fun _ H locs eX X => ?_)
  obtain ⟨lt, eX⟩ := eX
  subst eX
  have X9 : RX D A (law2 ca q lt) s.heap H locs := X
  refine lv_astore_n (lv' := [(1, .ref q), (0, .ref z.2.2.1)]) hx hb dL_law_7 rfl hl (by decide) rfl (fun ls hl => ?_)
  have X := X9
  clear X9
  refine x_new K hA X iX7 tyX7 tyX7_ok q35 q36 q16 (ci := 9) rfl (fs := objD) (fun j hj => by rcases j with _ | _ | _ | _ | _ | _ | _ | j <;> first | rfl | omega) (Nat.le_of_ble_eq_true rfl) (Nat.le_of_ble_eq_true rfl) dL_law_8 (fun o H X => ?_)
  refine lv_dup hx hb dL_law_11 rfl ?_
  refine x_ctor K hA hZ X (m_X7_init l D ca z _ o q lt rfl _) hl.1 0 q37 q38 q16 q39 rfl hs_X7_init ⟨⟨(Nat.le_of_ble_eq_true rfl), (Nat.le_of_ble_eq_true rfl)⟩, rfl, rfl⟩ rfl rfl (Nat.le_of_ble_eq_true rfl) dL_law_12 ⟨(Nat.le_of_ble_eq_true rfl), (Nat.le_of_ble_eq_true rfl)⟩ (fun _ H locs eX X => ?_)
  obtain ⟨ar, ag, hag, hag7, eX⟩ := eX
  subst eX
  have X9 := X
  clear X
  subst hag
  subst hag7
  refine lv_astore_n (lv' := [(2, .ref (ag 0)), (1, .ref (ag 7)), (0, .ref z.2.2.1)]) hx hb dL_law_15 rfl hl (by decide) rfl (fun ls hl => ?_)
  have X := X9
  clear X9
  refine lv_aload_n hx hb dL_law_16 rfl (lv_at hl 1 rfl) ?_
  refine lv_aload_n hx hb dL_law_17 rfl (lv_at hl 0 rfl) ?_
  refine lv_aload_n hx hb dL_law_18 rfl (lv_at hl 2 rfl) ?_
  have k1 := m_L_loads l D ca ar ag z (va_up Pz 0 R1) Gz [] true P' G' h1 H.size
  refine x_callVz K hA hZ X k1 hl.1 2 q309 q311 q0 q15 q312 hv_L_loads ⟨⟨Nat.le_of_ble_eq_true rfl, Nat.le_of_ble_eq_true rfl⟩, rfl, rfl⟩ (pl_glb (k := 7) (by decide)) rfl rfl rfl rfl (Nat.le_of_ble_eq_true rfl) dL_law_19 ⟨(Nat.le_of_ble_eq_true rfl), (Nat.le_of_ble_eq_true rfl)⟩ rfl (fun H locs X => ?_)
  refine lv_if_eq (tgt := 37) hx hb dL_law_22 (by decide) (fun c1 => False.elim (by revert c1; decide)) (fun _ => ?_)
  refine lv_aload_n hx hb dL_law_25 rfl (lv_at hl 0 rfl) ?_
  refine lv_aload_n hx hb dL_law_26 rfl (lv_at hl 2 rfl) ?_
  have k2 := m_L_holds l D ca ar ag z P' G' [] true P2 G2 h2 H.size
  refine x_callSz K hA hZ X k2 hl.1 2 q704 q705 q15 q706 hs_L_holds ⟨⟨Nat.le_of_ble_eq_true rfl, Nat.le_of_ble_eq_true rfl⟩, rfl, rfl⟩ rfl rfl (Nat.le_of_ble_eq_true rfl) dL_law_27 ⟨(Nat.le_of_ble_eq_true rfl), (Nat.le_of_ble_eq_true rfl)⟩ rfl (fun H locs X => ?_)
  refine lv_if_eq (tgt := 37) hx hb dL_law_30 (by decide) (fun c1 => False.elim (by revert c1; decide)) (fun _ => ?_)
  refine lv_iconst (v := 1) hx hb dL_law_33 (by decide) ?_
  refine lv_goto (tgt := 38) hx hb dL_law_34 (by decide) ?_
  refine w_widen (k := 600086) (n := 7301442) (Nat.le_of_ble_eq_true rfl) (Nat.le_of_ble_eq_true rfl) ?_
  exact kend _ _ _ _ X
theorem whole_core {p : Program} {e : Env} {s : State} {m : MethodId} {below : List Frame} {meth : Method} {c : Code} (l : Launch) {b L : Nat} {xs : Nat → Int32} (C0 : lw_At p s m meth c b L xs) (hok : ∀ z : ZG, z.2.2.2 = (L, xs) → ∃ (P' P2 : RowsS) (G' G2 : GlbS), f_L_loads z (va_up Pz 0 R1) Gz = some (true, P', G') ∧ f_L_holds z P' G' = some (true, P2, G2)) : W p l e room_1 s m #[Value.ref b] below meth c s.heap [] 0 0 (lw_Z below #[Value.ref b] s) (entryFrame m ([Value.ref b] : List Value).toArray 3) := by
  obtain ⟨hexec, hcode, hret, hml, hown, ht, hX, hbl, hlk, hpre⟩ := C0
  have hn : ∀ w ∈ nflat, w.before #[Value.ref b] s = true := flat_of_before _ (by rw [Cond.before_and, Bool.and_eq_true] at hpre; exact hpre.2)
  obtain ⟨D, ca, hK⟩ := ent_K ht
  obtain ⟨z, hz1, hz2, hZ⟩ := ent_zf (A := fun q => s.heap.size ≤ q) (fun a ha => by omega) ht hn hX hbl
  subst hz1
  have K : MC D ca p s m #[Value.ref z.2.2.1] meth c cL_law 3 RL := ⟨hexec, hcode, hml, hown, ent_all ht, hK, hlk⟩
  have hl : lv_has _ 3 [(0, .ref z.2.2.1)] := lv_entry [.ref z.2.2.1] (n := 3) (Nat.le_of_ble_eq_true rfl)
  rw [lg_entry_eq]
  obtain ⟨P', P2, G', G2, h1, h2⟩ := hok z hz2
  refine law_begin K (fun q h => h) hZ h1 h2 (fun H locs ls ws X => ?_) hl ⟨fun k q hk => (by cases hk), ⟨fun i j p q hi => (by cases hi), fun k q hk => (by cases hk)⟩, va_S.rf⟩
  refine va_forget (fun q hq => X.2.2.2.2 q hq) ?_
  exact lw_ret hexec hcode hret hlk dL_law_38
