/-! START: from the entry to the loop -/
set_option maxRecDepth 100000 in
set_option maxHeartbeats 4000000 in
theorem law_begin {p : Program} {l : Launch} {e : Env} {s : State} {m : MethodId} {args : Array Value} {below : List Frame} {meth : Method} {c : Code} {Q : State → Prop} {D : va_G} {A : Nat → Prop} {ca : Nat → ClassId} {b0 L : Nat} {xs : Nat → Int32} {Inv : RowsS → GlbS → RowS → Prop} {z : ZG} (K : MC D ca p s m args meth c cL_law 9 RL) (hl0 : l.stackTraces = false) (hA : ∀ q, s.heap.size ≤ q → A q) (hZ : ZF z A s s.heap) (hS : va_X b0 L xs s s.heap ∧ b0 < s.heap.size ∧ ¬ A b0) (hinit : Inv (va_up Pz 0 R1) Gz M1z) (hall : ∀ (P : RowsS) (G : GlbS) (M : RowS), Inv P G M → AllOK Inv P G M) (hL : L ≤ 3072) (kend : ∀ (H : Heap) (locs : List Loc) (ls : Array Slot) (ws : va_W), RX D A ws s.heap H locs → lv_has ls 9 [] → W p l e room_1 s m args below meth c H locs 601024 7293034 Q (F0 m 2308 ls [])) {ls : Array Slot} (hl : lv_has ls 9 [(0, .ref b0)]) (X : RX D A [] s.heap s.heap []) : W p l e room_1 s m args below meth c s.heap [] 0 0 Q (F0 m 0 ls []) := by
  have hx := K.1
  have hb := K.2.1
  refine x_new K hA X iX7 tyX7 tyX7_ok q113 q114 q87 (ci := 9) rfl (fs := objD) (fun j hj => by rcases j with _ | _ | _ | _ | _ | _ | _ | j <;> first | rfl | omega) (Nat.le_of_ble_eq_true rfl) (Nat.le_of_ble_eq_true rfl) dL_law_0 (fun q H X => ?_)
  refine lv_dup hx hb dL_law_3 rfl ?_
  refine x_ctor K hA hZ X (m_X7_init l D ca z _ q _) hl.1 0 q115 q116 q87 q117 rfl hs_X7_init ⟨⟨(Nat.le_of_ble_eq_true rfl), (Nat.le_of_ble_eq_true rfl)⟩, rfl, rfl⟩ rfl rfl (Nat.le_of_ble_eq_true rfl) dL_law_4 ⟨(Nat.le_of_ble_eq_true rfl), (Nat.le_of_ble_eq_true rfl)⟩ (fun _ H locs eX X => ?_)
  obtain ⟨ar, ag, hag, eX⟩ := eX
  subst eX
  rw [List.append_nil] at X
  have X9 := X
  subst hag
  refine lv_astore_n (lv' := [(1, .ref (ag 0)), (0, .ref b0)]) hx hb dL_law_7 rfl hl (by decide) rfl (fun ls hl => ?_)
  have X := X9
  clear X9
  refine x_new K hA X iX8 tyX8 tyX8_ok q1384 q1385 q97 (ci := 10) rfl (fs := modD) (fun j hj => by rcases j with _ | _ | _ | _ | _ | _ | _ | _ | _ | _ | _ | _ | _ | _ | _ | _ | _ | _ | _ | _ | _ | _ | _ | _ | _ | _ | _ | _ | _ | j <;> first | rfl | omega) (Nat.le_of_ble_eq_true rfl) (Nat.le_of_ble_eq_true rfl) dL_law_8 (fun q H X => ?_)
  refine lv_dup hx hb dL_law_11 rfl ?_
  refine x_ctor K hA hZ X (m_X8_init l D ca z _ q _) hl.1 0 q1386 q1387 q97 q1388 rfl hs_X8_init ⟨⟨(Nat.le_of_ble_eq_true rfl), (Nat.le_of_ble_eq_true rfl)⟩, rfl, rfl⟩ rfl rfl (Nat.le_of_ble_eq_true rfl) dL_law_12 ⟨(Nat.le_of_ble_eq_true rfl), (Nat.le_of_ble_eq_true rfl)⟩ (fun _ H locs eX X => ?_)
  obtain ⟨am, ham, eX⟩ := eX
  subst eX
  have X9 := X.perm List.perm_append_comm
  subst ham
  refine lv_astore_n (lv' := [(2, .ref (am 0)), (1, .ref (ag 0)), (0, .ref b0)]) hx hb dL_law_15 rfl hl (by decide) rfl (fun ls hl => ?_)
  refine lv_iconst (v := 1) hx hb dL_law_16 (by decide) ?_
  refine x_newa K hA X9 (ty := .long) rfl 2 rfl (fun C h => by cases h) q1487 (x := .inr (.inl fun _ => 0)) (fun cA => rfl) (by decide) (N' := 1) (by decide) (by decide) (Nat.le_of_ble_eq_true rfl) (Nat.le_of_ble_eq_true rfl) dL_law_17 (fun ao H X => ?_)
  have X : RX D A (wL ar ag ca am (va_up Pz 0 R1) Gz M1z ao (fun _ => 0)) s.heap H _ := RX.cat X
  refine lv_astore_n (lv' := [(3, .ref ao), (2, .ref (am 0)), (1, .ref (ag 0)), (0, .ref b0)]) hx hb dL_law_19 rfl hl (by decide) rfl (fun ls hl => ?_)
  refine lv_iconst (v := 0) hx hb dL_law_20 (by decide) ?_
  refine lv_istore (lv' := [(4, .int 0), (3, .ref ao), (2, .ref (am 0)), (1, .ref (ag 0)), (0, .ref b0)]) hx hb dL_law_21 hl (by decide) rfl (fun ls hl => ?_)
  exact law_loop K hl0 hA hZ hS hall hL kend (L + 6) 0 _ _ (Nat.zero_le _) rfl (by simp) (by simp) _ _ _ _ H _ ls hinit X (lv_sub hl [4, 3, 2, 1, 0] rfl)
theorem whole_core {p : Program} {e : Env} {s : State} {m : MethodId} {below : List Frame} {meth : Method} {c : Code} (l : Launch) (hflags : l.flags = flags0) {b L : Nat} {xs : Nat → Int32} (hL : L ≤ 3072) (C0 : lw_At p s m meth c b L xs) {Inv : RowsS → GlbS → RowS → Prop} (hinit : Inv (va_up Pz 0 R1) Gz M1z) (hall : ∀ (P : RowsS) (G : GlbS) (M : RowS), Inv P G M → AllOK Inv P G M) : W p l e room_1 s m #[Value.ref b] below meth c s.heap [] 0 0 (lw_Z below #[Value.ref b] s) (entryFrame m ([Value.ref b] : List Value).toArray 9) := by
  obtain ⟨hexec, hcode, hret, hml, hown, ht, hX, hbl, hlk, hpre⟩ := C0
  have hl0 : l.stackTraces = false := by
    unfold Launch.stackTraces; rw [hflags]; decide +kernel
  have hn : ∀ w ∈ nflat, w.before #[Value.ref b] s = true := flat_of_before _ (by rw [Cond.before_and, Bool.and_eq_true] at hpre; exact hpre.2)
  obtain ⟨D, ca, hK⟩ := ent_K ht
  obtain ⟨z, hZ⟩ := ent_zf (A := fun q => s.heap.size ≤ q) (fun a ha => by omega) ht hn
  have K : MC D ca p s m #[Value.ref b] meth c cL_law 9 RL := ⟨hexec, hcode, hml, hown, ent_all ht, hK, hlk⟩
  have hl : lv_has _ 9 [(0, .ref b)] := lv_entry [.ref b] (n := 9) (Nat.le_of_ble_eq_true rfl)
  rw [lg_entry_eq]
  refine law_begin K hl0 (fun q h => h) hZ ⟨hX, hbl, fun h => by omega⟩ hinit hall hL (fun H locs ls ws X hl => ?_) hl ⟨fun k q hk => (by cases hk), ⟨fun i j p q hi => (by cases hi), fun k q hk => (by cases hk)⟩, va_S.rf⟩
  refine va_forget (fun q hq => X.2.2.2.2 q hq) ?_
  refine lv_iconst (v := 1) hexec hcode dL_law_2308 (by decide) ?_
  exact lw_ret (d0 := s.drawn) (Drawn.sameBut.refl s.drawn lw_cs) hexec hcode hret hlk dL_law_2309
