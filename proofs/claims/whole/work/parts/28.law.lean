/-! LAW: the forty cases -/
-- case 0
def OK_feed (Inv : RowsS → GlbS → RowS → Prop) (P : RowsS) (G : GlbS) (M : RowS) (a1 : Int32) (a2 : Int32) (a3 : Int32) (a4 : Int32) (a5 : Int32) : Prop :=
  (∃ (n : Nat) (res : Int32) (G' : GlbS) (n2 : Nat) (b : Int32) (M' : RowS), f_X7_feed n P G a1 a2 a3 a4 a5 = some (res, G') ∧ f_X8_feed n2 M a1 a2 a3 a4 a5 = some (b, M') ∧ res = b ∧ Inv P G' M')
set_option maxRecDepth 100000 in
set_option maxHeartbeats 4000000 in
theorem k_feed {p : Program} {l : Launch} {e : Env} {s : State} {m : MethodId} {args : Array Value} {below : List Frame} {meth : Method} {c : Code} {Q : State → Prop} {D : va_G} {A : Nat → Prop} {ar : Nat → Nat → Nat} {ag : Nat → Nat} {ca : Nat → ClassId} {am : Nat → Nat} {ao b0 L : Nat} {xs : Nat → Int32} {I : Int32} {Inv : RowsS → GlbS → RowS → Prop} {cells slots : Nat} {z : ZG} (K : MC D ca p s m args meth c cL_law 9 RL) (hl0 : l.stackTraces = false) (hA : ∀ q, s.heap.size ≤ q → A q) (hZ : ZF z A s s.heap) (hS : va_X b0 L xs s s.heap ∧ b0 < s.heap.size ∧ ¬ A b0) (hroom : cells + 1 ≤ 601024 ∧ slots + 6 ≤ 7293034) {a1 : Int32} {a2 : Int32} {a3 : Int32} {a4 : Int32} {a5 : Int32} (h1 : vp_in (I + 1) L ∧ xs (I + 1).toNatClampNeg = a1) (h2 : vp_in (I + 2) L ∧ xs (I + 2).toNatClampNeg = a2) (h3 : vp_in (I + 3) L ∧ xs (I + 3).toNatClampNeg = a3) (h4 : vp_in (I + 4) L ∧ xs (I + 4).toNatClampNeg = a4) (h5 : vp_in (I + 5) L ∧ xs (I + 5).toNatClampNeg = a5) {P : RowsS} {G : GlbS} {M : RowS} {O : Nat → Int64} {H : Heap} {locs : List Loc} {ls : Array Slot} (hok : OK_feed Inv P G M a1 a2 a3 a4 a5) (X : RX D A (wL ar ag ca am P G M ao O) s.heap H locs) (hl : lv_has ls 9 [(0, .ref b0), (1, .ref (ag 0)), (2, .ref (am 0)), (3, .ref ao), (4, .int I)]) (kk : LwAt p l e s m args below meth c Q D A ar ag ca am ao b0 I Inv (cells + 1) (slots + 6) 2302) : W p l e room_1 s m args below meth c H locs cells slots Q (F0 m 216 ls []) := by
  have hx := K.1
  have hb := K.2.1
  obtain ⟨n, res, G', n2, b, M', h7, h8, hv, hI⟩ := hok
  refine lv_aload_n hx hb dL_law_216 rfl (lv_at hl 1 rfl) ?_
  refine lv_aload_n hx hb dL_law_217 rfl (lv_at hl 0 rfl) ?_
  refine lv_iload hx hb dL_law_218 (lv_at hl 4 rfl) ?_
  refine lv_iconst (v := 1) hx hb dL_law_220 (by decide) ?_
  refine lv_iadd hx hb dL_law_221 ?_
  refine x_sld K X hS h1 dL_law_222 ?_
  refine lv_aload_n hx hb dL_law_223 rfl (lv_at hl 0 rfl) ?_
  refine lv_iload hx hb dL_law_224 (lv_at hl 4 rfl) ?_
  refine lv_iconst (v := 2) hx hb dL_law_226 (by decide) ?_
  refine lv_iadd hx hb dL_law_227 ?_
  refine x_sld K X hS h2 dL_law_228 ?_
  refine lv_aload_n hx hb dL_law_229 rfl (lv_at hl 0 rfl) ?_
  refine lv_iload hx hb dL_law_230 (lv_at hl 4 rfl) ?_
  refine lv_iconst (v := 3) hx hb dL_law_232 (by decide) ?_
  refine lv_iadd hx hb dL_law_233 ?_
  refine x_sld K X hS h3 dL_law_234 ?_
  refine lv_aload_n hx hb dL_law_235 rfl (lv_at hl 0 rfl) ?_
  refine lv_iload hx hb dL_law_236 (lv_at hl 4 rfl) ?_
  refine lv_iconst (v := 4) hx hb dL_law_238 (by decide) ?_
  refine lv_iadd hx hb dL_law_239 ?_
  refine x_sld K X hS h4 dL_law_240 ?_
  refine lv_aload_n hx hb dL_law_241 rfl (lv_at hl 0 rfl) ?_
  refine lv_iload hx hb dL_law_242 (lv_at hl 4 rfl) ?_
  refine lv_iconst (v := 5) hx hb dL_law_244 (by decide) ?_
  refine lv_iadd hx hb dL_law_245 ?_
  refine x_sld K X hS h5 dL_law_246 ?_
  have kx := m_X7_feed l D ca ar ag n P G (wM am ca M ++ [(ao, oc ca O)]) a1 a2 a3 a4 a5 res G' h7 H.size
  refine x_callVw K hA X kx hl.1 5 q383 q384 q385 q87 q386 hv_X7_feed ⟨⟨(Nat.le_of_ble_eq_true rfl), (Nat.le_of_ble_eq_true rfl)⟩, rfl, rfl⟩ (pl_glb (k := 0) (by decide)) rfl rfl rfl rfl (Nat.le_of_ble_eq_true rfl) dL_law_247 ⟨(by show cells + 0 ≤ 601024; omega), (by show slots + 0 ≤ 7293034; omega)⟩ rfl (fun H locs X => ?_)
  refine lv_aload_n hx hb dL_law_250 rfl (lv_at hl 2 rfl) ?_
  refine lv_aload_n hx hb dL_law_251 rfl (lv_at hl 0 rfl) ?_
  refine lv_iload hx hb dL_law_252 (lv_at hl 4 rfl) ?_
  refine lv_iconst (v := 1) hx hb dL_law_254 (by decide) ?_
  refine lv_iadd hx hb dL_law_255 ?_
  refine x_sld K X hS h1 dL_law_256 ?_
  refine lv_aload_n hx hb dL_law_257 rfl (lv_at hl 0 rfl) ?_
  refine lv_iload hx hb dL_law_258 (lv_at hl 4 rfl) ?_
  refine lv_iconst (v := 2) hx hb dL_law_260 (by decide) ?_
  refine lv_iadd hx hb dL_law_261 ?_
  refine x_sld K X hS h2 dL_law_262 ?_
  refine lv_aload_n hx hb dL_law_263 rfl (lv_at hl 0 rfl) ?_
  refine lv_iload hx hb dL_law_264 (lv_at hl 4 rfl) ?_
  refine lv_iconst (v := 3) hx hb dL_law_266 (by decide) ?_
  refine lv_iadd hx hb dL_law_267 ?_
  refine x_sld K X hS h3 dL_law_268 ?_
  refine lv_aload_n hx hb dL_law_269 rfl (lv_at hl 0 rfl) ?_
  refine lv_iload hx hb dL_law_270 (lv_at hl 4 rfl) ?_
  refine lv_iconst (v := 4) hx hb dL_law_272 (by decide) ?_
  refine lv_iadd hx hb dL_law_273 ?_
  refine x_sld K X hS h4 dL_law_274 ?_
  refine lv_aload_n hx hb dL_law_275 rfl (lv_at hl 0 rfl) ?_
  refine lv_iload hx hb dL_law_276 (lv_at hl 4 rfl) ?_
  refine lv_iconst (v := 5) hx hb dL_law_278 (by decide) ?_
  refine lv_iadd hx hb dL_law_279 ?_
  refine x_sld K X hS h5 dL_law_280 ?_
  have X := X.perm wL_swap
  have kx := m_X8_feed l D ca am n2 M (wC ar ag ca P G' ++ [(ao, oc ca O)]) a1 a2 a3 a4 a5 b M' h8 H.size
  refine x_callVw K hA X kx hl.1 5 q1488 q1489 q1490 q97 q1491 hv_X8_feed ⟨⟨(Nat.le_of_ble_eq_true rfl), (Nat.le_of_ble_eq_true rfl)⟩, rfl, rfl⟩ pl_modo rfl rfl rfl rfl (Nat.le_of_ble_eq_true rfl) dL_law_281 ⟨(by show cells + 0 ≤ 601024; omega), (by show slots + 0 ≤ 7293034; omega)⟩ rfl (fun H locs X => ?_)
  have X := X.perm wL_swap.symm
  refine lv_icmp_eq (tgt := 2302) hx hb dL_law_284 (by decide) (fun _ => ?_) (fun c1 => absurd hv c1)
  exact w_widen (Nat.le_add_right cells 1) (Nat.le_add_right slots 6) (kk P G' M' O H locs ls hI X (lv_sub hl [0, 1, 2, 3, 4] rfl))
-- case 1
def OK_load (Inv : RowsS → GlbS → RowS → Prop) (P : RowsS) (G : GlbS) (M : RowS) (a1 : Int32) : Prop :=
  (∃ (n : Nat) (res : Int32) (P' : RowsS) (G' : GlbS) (n2 : Nat) (b : Int32) (M' : RowS), f_X7_load n P G a1 = some (res, P', G') ∧ f_X8_load n2 M a1 = some (b, M') ∧ f_X8_thrown M' = 0 ∧ res.toInt64 = b.toInt64 ∧ Inv P' G' M') ∨
  (∃ (n2 : Nat) (b : Int32) (M' : RowS), t_X7_load P G a1 = some 2 ∧ f_X8_load n2 M a1 = some (b, M') ∧ f_X8_thrown M' = 1 ∧ Inv P G M')
set_option maxRecDepth 100000 in
set_option maxHeartbeats 4000000 in
theorem k_load {p : Program} {l : Launch} {e : Env} {s : State} {m : MethodId} {args : Array Value} {below : List Frame} {meth : Method} {c : Code} {Q : State → Prop} {D : va_G} {A : Nat → Prop} {ar : Nat → Nat → Nat} {ag : Nat → Nat} {ca : Nat → ClassId} {am : Nat → Nat} {ao b0 L : Nat} {xs : Nat → Int32} {I : Int32} {Inv : RowsS → GlbS → RowS → Prop} {cells slots : Nat} {z : ZG} (K : MC D ca p s m args meth c cL_law 9 RL) (hl0 : l.stackTraces = false) (hA : ∀ q, s.heap.size ≤ q → A q) (hZ : ZF z A s s.heap) (hS : va_X b0 L xs s s.heap ∧ b0 < s.heap.size ∧ ¬ A b0) (hroom : cells + 1 ≤ 601024 ∧ slots + 6 ≤ 7293034) {a1 : Int32} (h1 : vp_in (I + 1) L ∧ xs (I + 1).toNatClampNeg = a1) {P : RowsS} {G : GlbS} {M : RowS} {O : Nat → Int64} {H : Heap} {locs : List Loc} {ls : Array Slot} (hok : OK_load Inv P G M a1) (X : RX D A (wL ar ag ca am P G M ao O) s.heap H locs) (hl : lv_has ls 9 [(0, .ref b0), (1, .ref (ag 0)), (2, .ref (am 0)), (3, .ref ao), (4, .int I)]) (kk : LwAt p l e s m args below meth c Q D A ar ag ca am ao b0 I Inv (cells + 1) (slots + 6) 2302) : W p l e room_1 s m args below meth c H locs cells slots Q (F0 m 289 ls []) := by
  have hx := K.1
  have hb := K.2.1
  unfold OK_load at hok
  rcases hok with hok | hok
  · skip
    obtain ⟨n, res, P', G', n2, b, M', h7, h8, hT, hv, hI⟩ := hok
    refine lv_aload_n hx hb dL_law_289 rfl (lv_at hl 1 rfl) ?_
    refine lv_aload_n hx hb dL_law_290 rfl (lv_at hl 0 rfl) ?_
    refine lv_iload hx hb dL_law_291 (lv_at hl 4 rfl) ?_
    refine lv_iconst (v := 1) hx hb dL_law_293 (by decide) ?_
    refine lv_iadd hx hb dL_law_294 ?_
    refine x_sld K X hS h1 dL_law_295 ?_
    refine lv_aload_n hx hb dL_law_296 rfl (lv_at hl 3 rfl) ?_
    have kx := n_L_load l D ca ar ag z n P G (wM am ca M) ao O a1 res P' G' h7 H.size
    refine x_callSW K hA hZ X kx hl.1 3 q549 q550 q86 q551 hs_L_load ⟨⟨(Nat.le_of_ble_eq_true rfl), (Nat.le_of_ble_eq_true rfl)⟩, rfl, rfl⟩ rfl rfl (Nat.le_of_ble_eq_true rfl) dL_law_297 ⟨hroom.1, hroom.2⟩ rfl (fun H locs X => ?_)
    refine lv_istore (lv' := [(5, .int 0), (0, .ref b0), (1, .ref (ag 0)), (2, .ref (am 0)), (3, .ref ao), (4, .int I)]) hx hb dL_law_300 hl (by decide) rfl (fun ls hl => ?_)
    refine lv_aload_n hx hb dL_law_302 rfl (lv_at hl 3 rfl) ?_
    refine lv_aload_n hx hb dL_law_303 rfl (lv_at hl 1 rfl) ?_
    refine lv_iload hx hb dL_law_304 (lv_at hl 5 rfl) ?_
    refine lv_iconst (v := 1) hx hb dL_law_306 (by decide) ?_
    refine lv_iadd hx hb dL_law_307 ?_
    refine x_sld K X hS h1 dL_law_308 ?_
    have X := X.perm wL_swap
    have kx := m_X8_load l D ca am n2 M (wC ar ag ca P' G' ++ [(ao, oc ca (va_up O 0 res.toInt64))]) a1 b M' h8 H.size
    refine x_callVw K hA X kx hl.1 1 q1500 q1501 q1502 q97 q1503 hv_X8_load ⟨⟨(Nat.le_of_ble_eq_true rfl), (Nat.le_of_ble_eq_true rfl)⟩, rfl, rfl⟩ pl_modo rfl rfl rfl rfl (Nat.le_of_ble_eq_true rfl) dL_law_309 ⟨(by show cells + 1 + 0 ≤ 601024; omega), (by show slots + 6 + 0 ≤ 7293034; omega)⟩ rfl (fun H locs X => ?_)
    have X := X.perm wL_swap.symm
    refine lv_istore (lv' := [(6, .int b), (5, .int 0), (0, .ref b0), (1, .ref (ag 0)), (2, .ref (am 0)), (3, .ref ao), (4, .int I)]) hx hb dL_law_312 hl (by decide) rfl (fun ls hl => ?_)
    refine lv_aload_n hx hb dL_law_314 rfl (lv_at hl 4 rfl) ?_
    have X := X.perm wL_swap
    have kx := m_X8_thrown l D ca am M' (wC ar ag ca P' G' ++ [(ao, oc ca (va_up O 0 res.toInt64))]) 0 hT H.size
    refine x_callVw K hA X kx hl.1 0 q1380 q1381 q1382 q97 q1383 hv_X8_thrown ⟨⟨(Nat.le_of_ble_eq_true rfl), (Nat.le_of_ble_eq_true rfl)⟩, rfl, rfl⟩ pl_modo rfl rfl rfl rfl (Nat.le_of_ble_eq_true rfl) dL_law_315 ⟨(by show cells + 1 + 0 ≤ 601024; omega), (by show slots + 6 + 0 ≤ 7293034; omega)⟩ rfl (fun H locs X => ?_)
    have X := X.perm wL_swap.symm
    refine lv_iload hx hb dL_law_318 (lv_at hl 1 rfl) ?_
    refine lv_icmp_eq (tgt := 325) hx hb dL_law_320 (by decide) (fun _ => ?_) (fun c1 => absurd rfl c1)
    refine lv_iload hx hb dL_law_325 (lv_at hl 1 rfl) ?_
    refine lv_if_ne (tgt := 342) hx hb dL_law_327 (by decide) (fun c1 => absurd rfl c1) (fun _ => ?_)
    refine lv_aload_n hx hb dL_law_330 rfl (lv_at hl 5 rfl) ?_
    refine lv_iconst (v := 0) hx hb dL_law_331 (by decide) ?_
    refine x_lald K X (241 + (wM am ca M').length) ctor_atw (vp_in_iff.mpr (by decide)) dL_law_332 ?_
    refine lv_iload hx hb dL_law_333 (lv_at hl 0 rfl) ?_
    refine lv_i2l hx hb dL_law_335 rfl ?_
    refine w_beq (tgt := 342) K dL_law_336 dL_law_337 (by decide) (fun _ => ?_) (fun c1 => absurd (by rw [show (0 : Int32).toNatClampNeg = 0 from rfl, va_up_self]; exact hv) c1)
    refine lv_goto (tgt := 2302) hx hb dL_law_342 (by decide) ?_
    exact kk P' G' M' (va_up O 0 res.toInt64) H locs ls hI X (lv_sub hl [2, 3, 4, 5, 6] rfl)
  · skip
    obtain ⟨n2, b, M', ht, h8, hT, hI⟩ := hok
    refine lv_aload_n hx hb dL_law_289 rfl (lv_at hl 1 rfl) ?_
    refine lv_aload_n hx hb dL_law_290 rfl (lv_at hl 0 rfl) ?_
    refine lv_iload hx hb dL_law_291 (lv_at hl 4 rfl) ?_
    refine lv_iconst (v := 1) hx hb dL_law_293 (by decide) ?_
    refine lv_iadd hx hb dL_law_294 ?_
    refine x_sld K X hS h1 dL_law_295 ?_
    refine lv_aload_n hx hb dL_law_296 rfl (lv_at hl 3 rfl) ?_
    have kx := e2_L_load l D ca ar ag z hl0 P G (wM am ca M) ao O a1 ht H.size
    refine x_callSW K hA hZ X kx hl.1 3 q549 q550 q86 q551 hs_L_load ⟨⟨(Nat.le_of_ble_eq_true rfl), (Nat.le_of_ble_eq_true rfl)⟩, rfl, rfl⟩ rfl rfl (Nat.le_of_ble_eq_true rfl) dL_law_297 ⟨hroom.1, hroom.2⟩ rfl (fun H locs X => ?_)
    refine lv_istore (lv' := [(5, .int 1), (0, .ref b0), (1, .ref (ag 0)), (2, .ref (am 0)), (3, .ref ao), (4, .int I)]) hx hb dL_law_300 hl (by decide) rfl (fun ls hl => ?_)
    refine lv_aload_n hx hb dL_law_302 rfl (lv_at hl 3 rfl) ?_
    refine lv_aload_n hx hb dL_law_303 rfl (lv_at hl 1 rfl) ?_
    refine lv_iload hx hb dL_law_304 (lv_at hl 5 rfl) ?_
    refine lv_iconst (v := 1) hx hb dL_law_306 (by decide) ?_
    refine lv_iadd hx hb dL_law_307 ?_
    refine x_sld K X hS h1 dL_law_308 ?_
    have X := X.perm wL_swap
    have kx := m_X8_load l D ca am n2 M (wC ar ag ca P G ++ [(ao, oc ca O)]) a1 b M' h8 H.size
    refine x_callVw K hA X kx hl.1 1 q1500 q1501 q1502 q97 q1503 hv_X8_load ⟨⟨(Nat.le_of_ble_eq_true rfl), (Nat.le_of_ble_eq_true rfl)⟩, rfl, rfl⟩ pl_modo rfl rfl rfl rfl (Nat.le_of_ble_eq_true rfl) dL_law_309 ⟨(by show cells + 1 + 0 ≤ 601024; omega), (by show slots + 6 + 0 ≤ 7293034; omega)⟩ rfl (fun H locs X => ?_)
    have X := X.perm wL_swap.symm
    refine lv_istore (lv' := [(6, .int b), (5, .int 1), (0, .ref b0), (1, .ref (ag 0)), (2, .ref (am 0)), (3, .ref ao), (4, .int I)]) hx hb dL_law_312 hl (by decide) rfl (fun ls hl => ?_)
    refine lv_aload_n hx hb dL_law_314 rfl (lv_at hl 4 rfl) ?_
    have X := X.perm wL_swap
    have kx := m_X8_thrown l D ca am M' (wC ar ag ca P G ++ [(ao, oc ca O)]) 1 hT H.size
    refine x_callVw K hA X kx hl.1 0 q1380 q1381 q1382 q97 q1383 hv_X8_thrown ⟨⟨(Nat.le_of_ble_eq_true rfl), (Nat.le_of_ble_eq_true rfl)⟩, rfl, rfl⟩ pl_modo rfl rfl rfl rfl (Nat.le_of_ble_eq_true rfl) dL_law_315 ⟨(by show cells + 1 + 0 ≤ 601024; omega), (by show slots + 6 + 0 ≤ 7293034; omega)⟩ rfl (fun H locs X => ?_)
    have X := X.perm wL_swap.symm
    refine lv_iload hx hb dL_law_318 (lv_at hl 1 rfl) ?_
    refine lv_icmp_eq (tgt := 325) hx hb dL_law_320 (by decide) (fun _ => ?_) (fun c1 => absurd rfl c1)
    refine lv_iload hx hb dL_law_325 (lv_at hl 1 rfl) ?_
    refine lv_if_ne (tgt := 342) hx hb dL_law_327 (by decide) (fun _ => ?_) (fun c1 => absurd c1 (by decide))
    refine lv_goto (tgt := 2302) hx hb dL_law_342 (by decide) ?_
    exact kk P G M' O H locs ls hI X (lv_sub hl [2, 3, 4, 5, 6] rfl)
-- case 2
def OK_errorPosition (Inv : RowsS → GlbS → RowS → Prop) (P : RowsS) (G : GlbS) (M : RowS) : Prop :=
  (∃ (res : Int32) (b : Int32) (M' : RowS), f_X7_errorPosition P G = res ∧ f_X8_errorPosition M = (b, M') ∧ res = b ∧ Inv P G M')
set_option maxRecDepth 100000 in
set_option maxHeartbeats 4000000 in
theorem k_errorPosition {p : Program} {l : Launch} {e : Env} {s : State} {m : MethodId} {args : Array Value} {below : List Frame} {meth : Method} {c : Code} {Q : State → Prop} {D : va_G} {A : Nat → Prop} {ar : Nat → Nat → Nat} {ag : Nat → Nat} {ca : Nat → ClassId} {am : Nat → Nat} {ao b0 L : Nat} {xs : Nat → Int32} {I : Int32} {Inv : RowsS → GlbS → RowS → Prop} {cells slots : Nat} {z : ZG} (K : MC D ca p s m args meth c cL_law 9 RL) (hl0 : l.stackTraces = false) (hA : ∀ q, s.heap.size ≤ q → A q) (hZ : ZF z A s s.heap) (hS : va_X b0 L xs s s.heap ∧ b0 < s.heap.size ∧ ¬ A b0) (hroom : cells + 1 ≤ 601024 ∧ slots + 6 ≤ 7293034) {P : RowsS} {G : GlbS} {M : RowS} {O : Nat → Int64} {H : Heap} {locs : List Loc} {ls : Array Slot} (hok : OK_errorPosition Inv P G M) (X : RX D A (wL ar ag ca am P G M ao O) s.heap H locs) (hl : lv_has ls 9 [(0, .ref b0), (1, .ref (ag 0)), (2, .ref (am 0)), (3, .ref ao), (4, .int I)]) (kk : LwAt p l e s m args below meth c Q D A ar ag ca am ao b0 I Inv (cells + 1) (slots + 6) 2302) : W p l e room_1 s m args below meth c H locs cells slots Q (F0 m 345 ls []) := by
  have hx := K.1
  have hb := K.2.1
  obtain ⟨res, b, M', h7, h8, hv, hI⟩ := hok
  refine lv_aload_n hx hb dL_law_345 rfl (lv_at hl 1 rfl) ?_
  have kx := m_X7_errorPosition l D ca ar ag P G (wM am ca M ++ [(ao, oc ca O)]) res h7 H.size
  refine x_callVw K hA X kx hl.1 0 q395 q396 q397 q87 q398 hv_X7_errorPosition ⟨⟨(Nat.le_of_ble_eq_true rfl), (Nat.le_of_ble_eq_true rfl)⟩, rfl, rfl⟩ (pl_glb (k := 0) (by decide)) rfl rfl rfl rfl (Nat.le_of_ble_eq_true rfl) dL_law_346 ⟨(by show cells + 0 ≤ 601024; omega), (by show slots + 0 ≤ 7293034; omega)⟩ rfl (fun H locs X => ?_)
  refine lv_aload_n hx hb dL_law_349 rfl (lv_at hl 2 rfl) ?_
  have X := X.perm wL_swap
  have kx := m_X8_errorPosition l D ca am M (wC ar ag ca P G ++ [(ao, oc ca O)]) b M' h8 H.size
  refine x_callVw K hA X kx hl.1 0 q1496 q1497 q1498 q97 q1499 hv_X8_errorPosition ⟨⟨(Nat.le_of_ble_eq_true rfl), (Nat.le_of_ble_eq_true rfl)⟩, rfl, rfl⟩ pl_modo rfl rfl rfl rfl (Nat.le_of_ble_eq_true rfl) dL_law_350 ⟨(by show cells + 0 ≤ 601024; omega), (by show slots + 0 ≤ 7293034; omega)⟩ rfl (fun H locs X => ?_)
  have X := X.perm wL_swap.symm
  refine lv_icmp_eq (tgt := 2302) hx hb dL_law_353 (by decide) (fun _ => ?_) (fun c1 => absurd hv c1)
  exact w_widen (Nat.le_add_right cells 1) (Nat.le_add_right slots 6) (kk P G M' O H locs ls hI X (lv_sub hl [0, 1, 2, 3, 4] rfl))
-- case 3
def OK_size (Inv : RowsS → GlbS → RowS → Prop) (P : RowsS) (G : GlbS) (M : RowS) (a1 : Int32) : Prop :=
  (∃ (n : Nat) (res : Int32) (n2 : Nat) (b : Int32) (M' : RowS), f_X7_size n P G a1 = some res ∧ f_X8_size n2 M a1 = some (b, M') ∧ f_X8_thrown M' = 0 ∧ res.toInt64 = b.toInt64 ∧ Inv P G M') ∨
  (∃ (n2 : Nat) (b : Int32) (M' : RowS), t_X7_size P G a1 = some 1 ∧ f_X8_size n2 M a1 = some (b, M') ∧ f_X8_thrown M' = 1 ∧ Inv P G M')
set_option maxRecDepth 100000 in
set_option maxHeartbeats 4000000 in
theorem k_size {p : Program} {l : Launch} {e : Env} {s : State} {m : MethodId} {args : Array Value} {below : List Frame} {meth : Method} {c : Code} {Q : State → Prop} {D : va_G} {A : Nat → Prop} {ar : Nat → Nat → Nat} {ag : Nat → Nat} {ca : Nat → ClassId} {am : Nat → Nat} {ao b0 L : Nat} {xs : Nat → Int32} {I : Int32} {Inv : RowsS → GlbS → RowS → Prop} {cells slots : Nat} {z : ZG} (K : MC D ca p s m args meth c cL_law 9 RL) (hl0 : l.stackTraces = false) (hA : ∀ q, s.heap.size ≤ q → A q) (hZ : ZF z A s s.heap) (hS : va_X b0 L xs s s.heap ∧ b0 < s.heap.size ∧ ¬ A b0) (hroom : cells + 1 ≤ 601024 ∧ slots + 6 ≤ 7293034) {a1 : Int32} (h1 : vp_in (I + 1) L ∧ xs (I + 1).toNatClampNeg = a1) {P : RowsS} {G : GlbS} {M : RowS} {O : Nat → Int64} {H : Heap} {locs : List Loc} {ls : Array Slot} (hok : OK_size Inv P G M a1) (X : RX D A (wL ar ag ca am P G M ao O) s.heap H locs) (hl : lv_has ls 9 [(0, .ref b0), (1, .ref (ag 0)), (2, .ref (am 0)), (3, .ref ao), (4, .int I)]) (kk : LwAt p l e s m args below meth c Q D A ar ag ca am ao b0 I Inv (cells + 1) (slots + 6) 2302) : W p l e room_1 s m args below meth c H locs cells slots Q (F0 m 358 ls []) := by
  have hx := K.1
  have hb := K.2.1
  unfold OK_size at hok
  rcases hok with hok | hok
  · skip
    obtain ⟨n, res, n2, b, M', h7, h8, hT, hv, hI⟩ := hok
    refine lv_aload_n hx hb dL_law_358 rfl (lv_at hl 1 rfl) ?_
    refine lv_aload_n hx hb dL_law_359 rfl (lv_at hl 0 rfl) ?_
    refine lv_iload hx hb dL_law_360 (lv_at hl 4 rfl) ?_
    refine lv_iconst (v := 1) hx hb dL_law_362 (by decide) ?_
    refine lv_iadd hx hb dL_law_363 ?_
    refine x_sld K X hS h1 dL_law_364 ?_
    refine lv_aload_n hx hb dL_law_365 rfl (lv_at hl 3 rfl) ?_
    have kx := n_L_size l D ca ar ag z n P G (wM am ca M) ao O a1 res h7 H.size
    refine x_callSW K hA hZ X kx hl.1 3 q816 q817 q86 q818 hs_L_size ⟨⟨(Nat.le_of_ble_eq_true rfl), (Nat.le_of_ble_eq_true rfl)⟩, rfl, rfl⟩ rfl rfl (Nat.le_of_ble_eq_true rfl) dL_law_366 ⟨hroom.1, hroom.2⟩ rfl (fun H locs X => ?_)
    refine lv_istore (lv' := [(5, .int 0), (0, .ref b0), (1, .ref (ag 0)), (2, .ref (am 0)), (3, .ref ao), (4, .int I)]) hx hb dL_law_369 hl (by decide) rfl (fun ls hl => ?_)
    refine lv_aload_n hx hb dL_law_371 rfl (lv_at hl 3 rfl) ?_
    refine lv_aload_n hx hb dL_law_372 rfl (lv_at hl 1 rfl) ?_
    refine lv_iload hx hb dL_law_373 (lv_at hl 5 rfl) ?_
    refine lv_iconst (v := 1) hx hb dL_law_375 (by decide) ?_
    refine lv_iadd hx hb dL_law_376 ?_
    refine x_sld K X hS h1 dL_law_377 ?_
    have X := X.perm wL_swap
    have kx := m_X8_size l D ca am n2 M (wC ar ag ca P G ++ [(ao, oc ca (va_up O 0 res.toInt64))]) a1 b M' h8 H.size
    refine x_callVw K hA X kx hl.1 1 q1676 q1677 q1678 q97 q1679 hv_X8_size ⟨⟨(Nat.le_of_ble_eq_true rfl), (Nat.le_of_ble_eq_true rfl)⟩, rfl, rfl⟩ pl_modo rfl rfl rfl rfl (Nat.le_of_ble_eq_true rfl) dL_law_378 ⟨(by show cells + 1 + 0 ≤ 601024; omega), (by show slots + 6 + 0 ≤ 7293034; omega)⟩ rfl (fun H locs X => ?_)
    have X := X.perm wL_swap.symm
    refine lv_istore (lv' := [(6, .int b), (5, .int 0), (0, .ref b0), (1, .ref (ag 0)), (2, .ref (am 0)), (3, .ref ao), (4, .int I)]) hx hb dL_law_381 hl (by decide) rfl (fun ls hl => ?_)
    refine lv_aload_n hx hb dL_law_383 rfl (lv_at hl 4 rfl) ?_
    have X := X.perm wL_swap
    have kx := m_X8_thrown l D ca am M' (wC ar ag ca P G ++ [(ao, oc ca (va_up O 0 res.toInt64))]) 0 hT H.size
    refine x_callVw K hA X kx hl.1 0 q1380 q1381 q1382 q97 q1383 hv_X8_thrown ⟨⟨(Nat.le_of_ble_eq_true rfl), (Nat.le_of_ble_eq_true rfl)⟩, rfl, rfl⟩ pl_modo rfl rfl rfl rfl (Nat.le_of_ble_eq_true rfl) dL_law_384 ⟨(by show cells + 1 + 0 ≤ 601024; omega), (by show slots + 6 + 0 ≤ 7293034; omega)⟩ rfl (fun H locs X => ?_)
    have X := X.perm wL_swap.symm
    refine lv_iload hx hb dL_law_387 (lv_at hl 1 rfl) ?_
    refine lv_icmp_eq (tgt := 394) hx hb dL_law_389 (by decide) (fun _ => ?_) (fun c1 => absurd rfl c1)
    refine lv_iload hx hb dL_law_394 (lv_at hl 1 rfl) ?_
    refine lv_if_ne (tgt := 411) hx hb dL_law_396 (by decide) (fun c1 => absurd rfl c1) (fun _ => ?_)
    refine lv_aload_n hx hb dL_law_399 rfl (lv_at hl 5 rfl) ?_
    refine lv_iconst (v := 0) hx hb dL_law_400 (by decide) ?_
    refine x_lald K X (241 + (wM am ca M').length) ctor_atw (vp_in_iff.mpr (by decide)) dL_law_401 ?_
    refine lv_iload hx hb dL_law_402 (lv_at hl 0 rfl) ?_
    refine lv_i2l hx hb dL_law_404 rfl ?_
    refine w_beq (tgt := 411) K dL_law_405 dL_law_406 (by decide) (fun _ => ?_) (fun c1 => absurd (by rw [show (0 : Int32).toNatClampNeg = 0 from rfl, va_up_self]; exact hv) c1)
    refine lv_goto (tgt := 2302) hx hb dL_law_411 (by decide) ?_
    exact kk P G M' (va_up O 0 res.toInt64) H locs ls hI X (lv_sub hl [2, 3, 4, 5, 6] rfl)
  · skip
    obtain ⟨n2, b, M', ht, h8, hT, hI⟩ := hok
    refine lv_aload_n hx hb dL_law_358 rfl (lv_at hl 1 rfl) ?_
    refine lv_aload_n hx hb dL_law_359 rfl (lv_at hl 0 rfl) ?_
    refine lv_iload hx hb dL_law_360 (lv_at hl 4 rfl) ?_
    refine lv_iconst (v := 1) hx hb dL_law_362 (by decide) ?_
    refine lv_iadd hx hb dL_law_363 ?_
    refine x_sld K X hS h1 dL_law_364 ?_
    refine lv_aload_n hx hb dL_law_365 rfl (lv_at hl 3 rfl) ?_
    have kx := e1_L_size l D ca ar ag z hl0 P G (wM am ca M) ao O a1 ht H.size
    refine x_callSW K hA hZ X kx hl.1 3 q816 q817 q86 q818 hs_L_size ⟨⟨(Nat.le_of_ble_eq_true rfl), (Nat.le_of_ble_eq_true rfl)⟩, rfl, rfl⟩ rfl rfl (Nat.le_of_ble_eq_true rfl) dL_law_366 ⟨hroom.1, hroom.2⟩ rfl (fun H locs X => ?_)
    refine lv_istore (lv' := [(5, .int 1), (0, .ref b0), (1, .ref (ag 0)), (2, .ref (am 0)), (3, .ref ao), (4, .int I)]) hx hb dL_law_369 hl (by decide) rfl (fun ls hl => ?_)
    refine lv_aload_n hx hb dL_law_371 rfl (lv_at hl 3 rfl) ?_
    refine lv_aload_n hx hb dL_law_372 rfl (lv_at hl 1 rfl) ?_
    refine lv_iload hx hb dL_law_373 (lv_at hl 5 rfl) ?_
    refine lv_iconst (v := 1) hx hb dL_law_375 (by decide) ?_
    refine lv_iadd hx hb dL_law_376 ?_
    refine x_sld K X hS h1 dL_law_377 ?_
    have X := X.perm wL_swap
    have kx := m_X8_size l D ca am n2 M (wC ar ag ca P G ++ [(ao, oc ca O)]) a1 b M' h8 H.size
    refine x_callVw K hA X kx hl.1 1 q1676 q1677 q1678 q97 q1679 hv_X8_size ⟨⟨(Nat.le_of_ble_eq_true rfl), (Nat.le_of_ble_eq_true rfl)⟩, rfl, rfl⟩ pl_modo rfl rfl rfl rfl (Nat.le_of_ble_eq_true rfl) dL_law_378 ⟨(by show cells + 1 + 0 ≤ 601024; omega), (by show slots + 6 + 0 ≤ 7293034; omega)⟩ rfl (fun H locs X => ?_)
    have X := X.perm wL_swap.symm
    refine lv_istore (lv' := [(6, .int b), (5, .int 1), (0, .ref b0), (1, .ref (ag 0)), (2, .ref (am 0)), (3, .ref ao), (4, .int I)]) hx hb dL_law_381 hl (by decide) rfl (fun ls hl => ?_)
    refine lv_aload_n hx hb dL_law_383 rfl (lv_at hl 4 rfl) ?_
    have X := X.perm wL_swap
    have kx := m_X8_thrown l D ca am M' (wC ar ag ca P G ++ [(ao, oc ca O)]) 1 hT H.size
    refine x_callVw K hA X kx hl.1 0 q1380 q1381 q1382 q97 q1383 hv_X8_thrown ⟨⟨(Nat.le_of_ble_eq_true rfl), (Nat.le_of_ble_eq_true rfl)⟩, rfl, rfl⟩ pl_modo rfl rfl rfl rfl (Nat.le_of_ble_eq_true rfl) dL_law_384 ⟨(by show cells + 1 + 0 ≤ 601024; omega), (by show slots + 6 + 0 ≤ 7293034; omega)⟩ rfl (fun H locs X => ?_)
    have X := X.perm wL_swap.symm
    refine lv_iload hx hb dL_law_387 (lv_at hl 1 rfl) ?_
    refine lv_icmp_eq (tgt := 394) hx hb dL_law_389 (by decide) (fun _ => ?_) (fun c1 => absurd rfl c1)
    refine lv_iload hx hb dL_law_394 (lv_at hl 1 rfl) ?_
    refine lv_if_ne (tgt := 411) hx hb dL_law_396 (by decide) (fun _ => ?_) (fun c1 => absurd c1 (by decide))
    refine lv_goto (tgt := 2302) hx hb dL_law_411 (by decide) ?_
    exact kk P G M' O H locs ls hI X (lv_sub hl [2, 3, 4, 5, 6] rfl)
-- case 4
def OK_pressure (Inv : RowsS → GlbS → RowS → Prop) (P : RowsS) (G : GlbS) (M : RowS) (a1 : Int32) : Prop :=
  (∃ (res : Int32) (b : Int32) (M' : RowS), f_X7_pressure P G a1 = some res ∧ f_X8_pressure M a1 = some (b, M') ∧ f_X8_thrown M' = 0 ∧ res.toInt64 = b.toInt64 ∧ Inv P G M') ∨
  (∃ (b : Int32) (M' : RowS), t_X7_pressure P G a1 = some 1 ∧ f_X8_pressure M a1 = some (b, M') ∧ f_X8_thrown M' = 1 ∧ Inv P G M')
set_option maxRecDepth 100000 in
set_option maxHeartbeats 4000000 in
theorem k_pressure {p : Program} {l : Launch} {e : Env} {s : State} {m : MethodId} {args : Array Value} {below : List Frame} {meth : Method} {c : Code} {Q : State → Prop} {D : va_G} {A : Nat → Prop} {ar : Nat → Nat → Nat} {ag : Nat → Nat} {ca : Nat → ClassId} {am : Nat → Nat} {ao b0 L : Nat} {xs : Nat → Int32} {I : Int32} {Inv : RowsS → GlbS → RowS → Prop} {cells slots : Nat} {z : ZG} (K : MC D ca p s m args meth c cL_law 9 RL) (hl0 : l.stackTraces = false) (hA : ∀ q, s.heap.size ≤ q → A q) (hZ : ZF z A s s.heap) (hS : va_X b0 L xs s s.heap ∧ b0 < s.heap.size ∧ ¬ A b0) (hroom : cells + 1 ≤ 601024 ∧ slots + 6 ≤ 7293034) {a1 : Int32} (h1 : vp_in (I + 1) L ∧ xs (I + 1).toNatClampNeg = a1) {P : RowsS} {G : GlbS} {M : RowS} {O : Nat → Int64} {H : Heap} {locs : List Loc} {ls : Array Slot} (hok : OK_pressure Inv P G M a1) (X : RX D A (wL ar ag ca am P G M ao O) s.heap H locs) (hl : lv_has ls 9 [(0, .ref b0), (1, .ref (ag 0)), (2, .ref (am 0)), (3, .ref ao), (4, .int I)]) (kk : LwAt p l e s m args below meth c Q D A ar ag ca am ao b0 I Inv (cells + 1) (slots + 6) 2302) : W p l e room_1 s m args below meth c H locs cells slots Q (F0 m 414 ls []) := by
  have hx := K.1
  have hb := K.2.1
  unfold OK_pressure at hok
  rcases hok with hok | hok
  · skip
    obtain ⟨res, b, M', h7, h8, hT, hv, hI⟩ := hok
    refine lv_aload_n hx hb dL_law_414 rfl (lv_at hl 1 rfl) ?_
    refine lv_aload_n hx hb dL_law_415 rfl (lv_at hl 0 rfl) ?_
    refine lv_iload hx hb dL_law_416 (lv_at hl 4 rfl) ?_
    refine lv_iconst (v := 1) hx hb dL_law_418 (by decide) ?_
    refine lv_iadd hx hb dL_law_419 ?_
    refine x_sld K X hS h1 dL_law_420 ?_
    refine lv_aload_n hx hb dL_law_421 rfl (lv_at hl 3 rfl) ?_
    have kx := n_L_pressure l D ca ar ag z P G (wM am ca M) ao O a1 res h7 H.size
    refine x_callSW K hA hZ X kx hl.1 3 q844 q845 q86 q846 hs_L_pressure ⟨⟨(Nat.le_of_ble_eq_true rfl), (Nat.le_of_ble_eq_true rfl)⟩, rfl, rfl⟩ rfl rfl (Nat.le_of_ble_eq_true rfl) dL_law_422 ⟨hroom.1, hroom.2⟩ rfl (fun H locs X => ?_)
    refine lv_istore (lv' := [(5, .int 0), (0, .ref b0), (1, .ref (ag 0)), (2, .ref (am 0)), (3, .ref ao), (4, .int I)]) hx hb dL_law_425 hl (by decide) rfl (fun ls hl => ?_)
    refine lv_aload_n hx hb dL_law_427 rfl (lv_at hl 3 rfl) ?_
    refine lv_aload_n hx hb dL_law_428 rfl (lv_at hl 1 rfl) ?_
    refine lv_iload hx hb dL_law_429 (lv_at hl 5 rfl) ?_
    refine lv_iconst (v := 1) hx hb dL_law_431 (by decide) ?_
    refine lv_iadd hx hb dL_law_432 ?_
    refine x_sld K X hS h1 dL_law_433 ?_
    have X := X.perm wL_swap
    have kx := m_X8_pressure l D ca am M (wC ar ag ca P G ++ [(ao, oc ca (va_up O 0 res.toInt64))]) a1 b M' h8 H.size
    refine x_callVw K hA X kx hl.1 1 q1685 q1686 q1687 q97 q1688 hv_X8_pressure ⟨⟨(Nat.le_of_ble_eq_true rfl), (Nat.le_of_ble_eq_true rfl)⟩, rfl, rfl⟩ pl_modo rfl rfl rfl rfl (Nat.le_of_ble_eq_true rfl) dL_law_434 ⟨(by show cells + 1 + 0 ≤ 601024; omega), (by show slots + 6 + 0 ≤ 7293034; omega)⟩ rfl (fun H locs X => ?_)
    have X := X.perm wL_swap.symm
    refine lv_istore (lv' := [(6, .int b), (5, .int 0), (0, .ref b0), (1, .ref (ag 0)), (2, .ref (am 0)), (3, .ref ao), (4, .int I)]) hx hb dL_law_437 hl (by decide) rfl (fun ls hl => ?_)
    refine lv_aload_n hx hb dL_law_439 rfl (lv_at hl 4 rfl) ?_
    have X := X.perm wL_swap
    have kx := m_X8_thrown l D ca am M' (wC ar ag ca P G ++ [(ao, oc ca (va_up O 0 res.toInt64))]) 0 hT H.size
    refine x_callVw K hA X kx hl.1 0 q1380 q1381 q1382 q97 q1383 hv_X8_thrown ⟨⟨(Nat.le_of_ble_eq_true rfl), (Nat.le_of_ble_eq_true rfl)⟩, rfl, rfl⟩ pl_modo rfl rfl rfl rfl (Nat.le_of_ble_eq_true rfl) dL_law_440 ⟨(by show cells + 1 + 0 ≤ 601024; omega), (by show slots + 6 + 0 ≤ 7293034; omega)⟩ rfl (fun H locs X => ?_)
    have X := X.perm wL_swap.symm
    refine lv_iload hx hb dL_law_443 (lv_at hl 1 rfl) ?_
    refine lv_icmp_eq (tgt := 450) hx hb dL_law_445 (by decide) (fun _ => ?_) (fun c1 => absurd rfl c1)
    refine lv_iload hx hb dL_law_450 (lv_at hl 1 rfl) ?_
    refine lv_if_ne (tgt := 467) hx hb dL_law_452 (by decide) (fun c1 => absurd rfl c1) (fun _ => ?_)
    refine lv_aload_n hx hb dL_law_455 rfl (lv_at hl 5 rfl) ?_
    refine lv_iconst (v := 0) hx hb dL_law_456 (by decide) ?_
    refine x_lald K X (241 + (wM am ca M').length) ctor_atw (vp_in_iff.mpr (by decide)) dL_law_457 ?_
    refine lv_iload hx hb dL_law_458 (lv_at hl 0 rfl) ?_
    refine lv_i2l hx hb dL_law_460 rfl ?_
    refine w_beq (tgt := 467) K dL_law_461 dL_law_462 (by decide) (fun _ => ?_) (fun c1 => absurd (by rw [show (0 : Int32).toNatClampNeg = 0 from rfl, va_up_self]; exact hv) c1)
    refine lv_goto (tgt := 2302) hx hb dL_law_467 (by decide) ?_
    exact kk P G M' (va_up O 0 res.toInt64) H locs ls hI X (lv_sub hl [2, 3, 4, 5, 6] rfl)
  · skip
    obtain ⟨b, M', ht, h8, hT, hI⟩ := hok
    refine lv_aload_n hx hb dL_law_414 rfl (lv_at hl 1 rfl) ?_
    refine lv_aload_n hx hb dL_law_415 rfl (lv_at hl 0 rfl) ?_
    refine lv_iload hx hb dL_law_416 (lv_at hl 4 rfl) ?_
    refine lv_iconst (v := 1) hx hb dL_law_418 (by decide) ?_
    refine lv_iadd hx hb dL_law_419 ?_
    refine x_sld K X hS h1 dL_law_420 ?_
    refine lv_aload_n hx hb dL_law_421 rfl (lv_at hl 3 rfl) ?_
    have kx := e1_L_pressure l D ca ar ag z hl0 P G (wM am ca M) ao O a1 ht H.size
    refine x_callSW K hA hZ X kx hl.1 3 q844 q845 q86 q846 hs_L_pressure ⟨⟨(Nat.le_of_ble_eq_true rfl), (Nat.le_of_ble_eq_true rfl)⟩, rfl, rfl⟩ rfl rfl (Nat.le_of_ble_eq_true rfl) dL_law_422 ⟨hroom.1, hroom.2⟩ rfl (fun H locs X => ?_)
    refine lv_istore (lv' := [(5, .int 1), (0, .ref b0), (1, .ref (ag 0)), (2, .ref (am 0)), (3, .ref ao), (4, .int I)]) hx hb dL_law_425 hl (by decide) rfl (fun ls hl => ?_)
    refine lv_aload_n hx hb dL_law_427 rfl (lv_at hl 3 rfl) ?_
    refine lv_aload_n hx hb dL_law_428 rfl (lv_at hl 1 rfl) ?_
    refine lv_iload hx hb dL_law_429 (lv_at hl 5 rfl) ?_
    refine lv_iconst (v := 1) hx hb dL_law_431 (by decide) ?_
    refine lv_iadd hx hb dL_law_432 ?_
    refine x_sld K X hS h1 dL_law_433 ?_
    have X := X.perm wL_swap
    have kx := m_X8_pressure l D ca am M (wC ar ag ca P G ++ [(ao, oc ca O)]) a1 b M' h8 H.size
    refine x_callVw K hA X kx hl.1 1 q1685 q1686 q1687 q97 q1688 hv_X8_pressure ⟨⟨(Nat.le_of_ble_eq_true rfl), (Nat.le_of_ble_eq_true rfl)⟩, rfl, rfl⟩ pl_modo rfl rfl rfl rfl (Nat.le_of_ble_eq_true rfl) dL_law_434 ⟨(by show cells + 1 + 0 ≤ 601024; omega), (by show slots + 6 + 0 ≤ 7293034; omega)⟩ rfl (fun H locs X => ?_)
    have X := X.perm wL_swap.symm
    refine lv_istore (lv' := [(6, .int b), (5, .int 1), (0, .ref b0), (1, .ref (ag 0)), (2, .ref (am 0)), (3, .ref ao), (4, .int I)]) hx hb dL_law_437 hl (by decide) rfl (fun ls hl => ?_)
    refine lv_aload_n hx hb dL_law_439 rfl (lv_at hl 4 rfl) ?_
    have X := X.perm wL_swap
    have kx := m_X8_thrown l D ca am M' (wC ar ag ca P G ++ [(ao, oc ca O)]) 1 hT H.size
    refine x_callVw K hA X kx hl.1 0 q1380 q1381 q1382 q97 q1383 hv_X8_thrown ⟨⟨(Nat.le_of_ble_eq_true rfl), (Nat.le_of_ble_eq_true rfl)⟩, rfl, rfl⟩ pl_modo rfl rfl rfl rfl (Nat.le_of_ble_eq_true rfl) dL_law_440 ⟨(by show cells + 1 + 0 ≤ 601024; omega), (by show slots + 6 + 0 ≤ 7293034; omega)⟩ rfl (fun H locs X => ?_)
    have X := X.perm wL_swap.symm
    refine lv_iload hx hb dL_law_443 (lv_at hl 1 rfl) ?_
    refine lv_icmp_eq (tgt := 450) hx hb dL_law_445 (by decide) (fun _ => ?_) (fun c1 => absurd rfl c1)
    refine lv_iload hx hb dL_law_450 (lv_at hl 1 rfl) ?_
    refine lv_if_ne (tgt := 467) hx hb dL_law_452 (by decide) (fun _ => ?_) (fun c1 => absurd c1 (by decide))
    refine lv_goto (tgt := 2302) hx hb dL_law_467 (by decide) ?_
    exact kk P G M' O H locs ls hI X (lv_sub hl [2, 3, 4, 5, 6] rfl)
-- case 5
def OK_leg (Inv : RowsS → GlbS → RowS → Prop) (P : RowsS) (G : GlbS) (M : RowS) (a1 : Int32) (a2 : Int32) : Prop :=
  (∃ (res : Int32) (n2 : Nat) (b : Int32) (M' : RowS), f_X7_leg P G a1 a2 = some res ∧ f_X8_leg n2 M a1 a2 = some (b, M') ∧ f_X8_thrown M' = 0 ∧ res.toInt64 = b.toInt64 ∧ Inv P G M') ∨
  (∃ (n2 : Nat) (b : Int32) (M' : RowS), t_X7_leg P G a1 a2 = some 1 ∧ f_X8_leg n2 M a1 a2 = some (b, M') ∧ f_X8_thrown M' = 1 ∧ Inv P G M')
set_option maxRecDepth 100000 in
set_option maxHeartbeats 4000000 in
theorem k_leg {p : Program} {l : Launch} {e : Env} {s : State} {m : MethodId} {args : Array Value} {below : List Frame} {meth : Method} {c : Code} {Q : State → Prop} {D : va_G} {A : Nat → Prop} {ar : Nat → Nat → Nat} {ag : Nat → Nat} {ca : Nat → ClassId} {am : Nat → Nat} {ao b0 L : Nat} {xs : Nat → Int32} {I : Int32} {Inv : RowsS → GlbS → RowS → Prop} {cells slots : Nat} {z : ZG} (K : MC D ca p s m args meth c cL_law 9 RL) (hl0 : l.stackTraces = false) (hA : ∀ q, s.heap.size ≤ q → A q) (hZ : ZF z A s s.heap) (hS : va_X b0 L xs s s.heap ∧ b0 < s.heap.size ∧ ¬ A b0) (hroom : cells + 1 ≤ 601024 ∧ slots + 6 ≤ 7293034) {a1 : Int32} {a2 : Int32} (h1 : vp_in (I + 1) L ∧ xs (I + 1).toNatClampNeg = a1) (h2 : vp_in (I + 2) L ∧ xs (I + 2).toNatClampNeg = a2) {P : RowsS} {G : GlbS} {M : RowS} {O : Nat → Int64} {H : Heap} {locs : List Loc} {ls : Array Slot} (hok : OK_leg Inv P G M a1 a2) (X : RX D A (wL ar ag ca am P G M ao O) s.heap H locs) (hl : lv_has ls 9 [(0, .ref b0), (1, .ref (ag 0)), (2, .ref (am 0)), (3, .ref ao), (4, .int I)]) (kk : LwAt p l e s m args below meth c Q D A ar ag ca am ao b0 I Inv (cells + 1) (slots + 6) 2302) : W p l e room_1 s m args below meth c H locs cells slots Q (F0 m 470 ls []) := by
  have hx := K.1
  have hb := K.2.1
  unfold OK_leg at hok
  rcases hok with hok | hok
  · skip
    obtain ⟨res, n2, b, M', h7, h8, hT, hv, hI⟩ := hok
    refine lv_aload_n hx hb dL_law_470 rfl (lv_at hl 1 rfl) ?_
    refine lv_aload_n hx hb dL_law_471 rfl (lv_at hl 0 rfl) ?_
    refine lv_iload hx hb dL_law_472 (lv_at hl 4 rfl) ?_
    refine lv_iconst (v := 1) hx hb dL_law_474 (by decide) ?_
    refine lv_iadd hx hb dL_law_475 ?_
    refine x_sld K X hS h1 dL_law_476 ?_
    refine lv_aload_n hx hb dL_law_477 rfl (lv_at hl 0 rfl) ?_
    refine lv_iload hx hb dL_law_478 (lv_at hl 4 rfl) ?_
    refine lv_iconst (v := 2) hx hb dL_law_480 (by decide) ?_
    refine lv_iadd hx hb dL_law_481 ?_
    refine x_sld K X hS h2 dL_law_482 ?_
    refine lv_aload_n hx hb dL_law_483 rfl (lv_at hl 3 rfl) ?_
    have kx := n_L_leg l D ca ar ag z P G (wM am ca M) ao O a1 a2 res h7 H.size
    refine x_callSW K hA hZ X kx hl.1 4 q857 q858 q86 q859 hs_L_leg ⟨⟨(Nat.le_of_ble_eq_true rfl), (Nat.le_of_ble_eq_true rfl)⟩, rfl, rfl⟩ rfl rfl (Nat.le_of_ble_eq_true rfl) dL_law_484 ⟨hroom.1, hroom.2⟩ rfl (fun H locs X => ?_)
    refine lv_istore (lv' := [(5, .int 0), (0, .ref b0), (1, .ref (ag 0)), (2, .ref (am 0)), (3, .ref ao), (4, .int I)]) hx hb dL_law_487 hl (by decide) rfl (fun ls hl => ?_)
    refine lv_aload_n hx hb dL_law_489 rfl (lv_at hl 3 rfl) ?_
    refine lv_aload_n hx hb dL_law_490 rfl (lv_at hl 1 rfl) ?_
    refine lv_iload hx hb dL_law_491 (lv_at hl 5 rfl) ?_
    refine lv_iconst (v := 1) hx hb dL_law_493 (by decide) ?_
    refine lv_iadd hx hb dL_law_494 ?_
    refine x_sld K X hS h1 dL_law_495 ?_
    refine lv_aload_n hx hb dL_law_496 rfl (lv_at hl 1 rfl) ?_
    refine lv_iload hx hb dL_law_497 (lv_at hl 5 rfl) ?_
    refine lv_iconst (v := 2) hx hb dL_law_499 (by decide) ?_
    refine lv_iadd hx hb dL_law_500 ?_
    refine x_sld K X hS h2 dL_law_501 ?_
    have X := X.perm wL_swap
    have kx := m_X8_leg l D ca am n2 M (wC ar ag ca P G ++ [(ao, oc ca (va_up O 0 res.toInt64))]) a1 a2 b M' h8 H.size
    refine x_callVw K hA X kx hl.1 2 q1693 q1694 q1695 q97 q1696 hv_X8_leg ⟨⟨(Nat.le_of_ble_eq_true rfl), (Nat.le_of_ble_eq_true rfl)⟩, rfl, rfl⟩ pl_modo rfl rfl rfl rfl (Nat.le_of_ble_eq_true rfl) dL_law_502 ⟨(by show cells + 1 + 0 ≤ 601024; omega), (by show slots + 6 + 0 ≤ 7293034; omega)⟩ rfl (fun H locs X => ?_)
    have X := X.perm wL_swap.symm
    refine lv_istore (lv' := [(6, .int b), (5, .int 0), (0, .ref b0), (1, .ref (ag 0)), (2, .ref (am 0)), (3, .ref ao), (4, .int I)]) hx hb dL_law_505 hl (by decide) rfl (fun ls hl => ?_)
    refine lv_aload_n hx hb dL_law_507 rfl (lv_at hl 4 rfl) ?_
    have X := X.perm wL_swap
    have kx := m_X8_thrown l D ca am M' (wC ar ag ca P G ++ [(ao, oc ca (va_up O 0 res.toInt64))]) 0 hT H.size
    refine x_callVw K hA X kx hl.1 0 q1380 q1381 q1382 q97 q1383 hv_X8_thrown ⟨⟨(Nat.le_of_ble_eq_true rfl), (Nat.le_of_ble_eq_true rfl)⟩, rfl, rfl⟩ pl_modo rfl rfl rfl rfl (Nat.le_of_ble_eq_true rfl) dL_law_508 ⟨(by show cells + 1 + 0 ≤ 601024; omega), (by show slots + 6 + 0 ≤ 7293034; omega)⟩ rfl (fun H locs X => ?_)
    have X := X.perm wL_swap.symm
    refine lv_iload hx hb dL_law_511 (lv_at hl 1 rfl) ?_
    refine lv_icmp_eq (tgt := 518) hx hb dL_law_513 (by decide) (fun _ => ?_) (fun c1 => absurd rfl c1)
    refine lv_iload hx hb dL_law_518 (lv_at hl 1 rfl) ?_
    refine lv_if_ne (tgt := 535) hx hb dL_law_520 (by decide) (fun c1 => absurd rfl c1) (fun _ => ?_)
    refine lv_aload_n hx hb dL_law_523 rfl (lv_at hl 5 rfl) ?_
    refine lv_iconst (v := 0) hx hb dL_law_524 (by decide) ?_
    refine x_lald K X (241 + (wM am ca M').length) ctor_atw (vp_in_iff.mpr (by decide)) dL_law_525 ?_
    refine lv_iload hx hb dL_law_526 (lv_at hl 0 rfl) ?_
    refine lv_i2l hx hb dL_law_528 rfl ?_
    refine w_beq (tgt := 535) K dL_law_529 dL_law_530 (by decide) (fun _ => ?_) (fun c1 => absurd (by rw [show (0 : Int32).toNatClampNeg = 0 from rfl, va_up_self]; exact hv) c1)
    refine lv_goto (tgt := 2302) hx hb dL_law_535 (by decide) ?_
    exact kk P G M' (va_up O 0 res.toInt64) H locs ls hI X (lv_sub hl [2, 3, 4, 5, 6] rfl)
  · skip
    obtain ⟨n2, b, M', ht, h8, hT, hI⟩ := hok
    refine lv_aload_n hx hb dL_law_470 rfl (lv_at hl 1 rfl) ?_
    refine lv_aload_n hx hb dL_law_471 rfl (lv_at hl 0 rfl) ?_
    refine lv_iload hx hb dL_law_472 (lv_at hl 4 rfl) ?_
    refine lv_iconst (v := 1) hx hb dL_law_474 (by decide) ?_
    refine lv_iadd hx hb dL_law_475 ?_
    refine x_sld K X hS h1 dL_law_476 ?_
    refine lv_aload_n hx hb dL_law_477 rfl (lv_at hl 0 rfl) ?_
    refine lv_iload hx hb dL_law_478 (lv_at hl 4 rfl) ?_
    refine lv_iconst (v := 2) hx hb dL_law_480 (by decide) ?_
    refine lv_iadd hx hb dL_law_481 ?_
    refine x_sld K X hS h2 dL_law_482 ?_
    refine lv_aload_n hx hb dL_law_483 rfl (lv_at hl 3 rfl) ?_
    have kx := e1_L_leg l D ca ar ag z hl0 P G (wM am ca M) ao O a1 a2 ht H.size
    refine x_callSW K hA hZ X kx hl.1 4 q857 q858 q86 q859 hs_L_leg ⟨⟨(Nat.le_of_ble_eq_true rfl), (Nat.le_of_ble_eq_true rfl)⟩, rfl, rfl⟩ rfl rfl (Nat.le_of_ble_eq_true rfl) dL_law_484 ⟨hroom.1, hroom.2⟩ rfl (fun H locs X => ?_)
    refine lv_istore (lv' := [(5, .int 1), (0, .ref b0), (1, .ref (ag 0)), (2, .ref (am 0)), (3, .ref ao), (4, .int I)]) hx hb dL_law_487 hl (by decide) rfl (fun ls hl => ?_)
    refine lv_aload_n hx hb dL_law_489 rfl (lv_at hl 3 rfl) ?_
    refine lv_aload_n hx hb dL_law_490 rfl (lv_at hl 1 rfl) ?_
    refine lv_iload hx hb dL_law_491 (lv_at hl 5 rfl) ?_
    refine lv_iconst (v := 1) hx hb dL_law_493 (by decide) ?_
    refine lv_iadd hx hb dL_law_494 ?_
    refine x_sld K X hS h1 dL_law_495 ?_
    refine lv_aload_n hx hb dL_law_496 rfl (lv_at hl 1 rfl) ?_
    refine lv_iload hx hb dL_law_497 (lv_at hl 5 rfl) ?_
    refine lv_iconst (v := 2) hx hb dL_law_499 (by decide) ?_
    refine lv_iadd hx hb dL_law_500 ?_
    refine x_sld K X hS h2 dL_law_501 ?_
    have X := X.perm wL_swap
    have kx := m_X8_leg l D ca am n2 M (wC ar ag ca P G ++ [(ao, oc ca O)]) a1 a2 b M' h8 H.size
    refine x_callVw K hA X kx hl.1 2 q1693 q1694 q1695 q97 q1696 hv_X8_leg ⟨⟨(Nat.le_of_ble_eq_true rfl), (Nat.le_of_ble_eq_true rfl)⟩, rfl, rfl⟩ pl_modo rfl rfl rfl rfl (Nat.le_of_ble_eq_true rfl) dL_law_502 ⟨(by show cells + 1 + 0 ≤ 601024; omega), (by show slots + 6 + 0 ≤ 7293034; omega)⟩ rfl (fun H locs X => ?_)
    have X := X.perm wL_swap.symm
    refine lv_istore (lv' := [(6, .int b), (5, .int 1), (0, .ref b0), (1, .ref (ag 0)), (2, .ref (am 0)), (3, .ref ao), (4, .int I)]) hx hb dL_law_505 hl (by decide) rfl (fun ls hl => ?_)
    refine lv_aload_n hx hb dL_law_507 rfl (lv_at hl 4 rfl) ?_
    have X := X.perm wL_swap
    have kx := m_X8_thrown l D ca am M' (wC ar ag ca P G ++ [(ao, oc ca O)]) 1 hT H.size
    refine x_callVw K hA X kx hl.1 0 q1380 q1381 q1382 q97 q1383 hv_X8_thrown ⟨⟨(Nat.le_of_ble_eq_true rfl), (Nat.le_of_ble_eq_true rfl)⟩, rfl, rfl⟩ pl_modo rfl rfl rfl rfl (Nat.le_of_ble_eq_true rfl) dL_law_508 ⟨(by show cells + 1 + 0 ≤ 601024; omega), (by show slots + 6 + 0 ≤ 7293034; omega)⟩ rfl (fun H locs X => ?_)
    have X := X.perm wL_swap.symm
    refine lv_iload hx hb dL_law_511 (lv_at hl 1 rfl) ?_
    refine lv_icmp_eq (tgt := 518) hx hb dL_law_513 (by decide) (fun _ => ?_) (fun c1 => absurd rfl c1)
    refine lv_iload hx hb dL_law_518 (lv_at hl 1 rfl) ?_
    refine lv_if_ne (tgt := 535) hx hb dL_law_520 (by decide) (fun _ => ?_) (fun c1 => absurd c1 (by decide))
    refine lv_goto (tgt := 2302) hx hb dL_law_535 (by decide) ?_
    exact kk P G M' O H locs ls hI X (lv_sub hl [2, 3, 4, 5, 6] rfl)
-- case 6
def OK_account (Inv : RowsS → GlbS → RowS → Prop) (P : RowsS) (G : GlbS) (M : RowS) (a1 : Int32) (a2 : Int32) : Prop :=
  (∃ (n : Nat) (res : Int64) (n2 : Nat) (b : Int64) (M' : RowS), f_X7_account n P G a1 a2 = some res ∧ f_X8_account n2 M a1 a2 = some (b, M') ∧ f_X8_thrown M' = 0 ∧ res = b ∧ Inv P G M') ∨
  (∃ (n : Nat) (n2 : Nat) (b : Int64) (M' : RowS), t_X7_account n P G a1 a2 = some 1 ∧ f_X8_account n2 M a1 a2 = some (b, M') ∧ f_X8_thrown M' = 1 ∧ Inv P G M')
set_option maxRecDepth 100000 in
set_option maxHeartbeats 4000000 in
theorem k_account {p : Program} {l : Launch} {e : Env} {s : State} {m : MethodId} {args : Array Value} {below : List Frame} {meth : Method} {c : Code} {Q : State → Prop} {D : va_G} {A : Nat → Prop} {ar : Nat → Nat → Nat} {ag : Nat → Nat} {ca : Nat → ClassId} {am : Nat → Nat} {ao b0 L : Nat} {xs : Nat → Int32} {I : Int32} {Inv : RowsS → GlbS → RowS → Prop} {cells slots : Nat} {z : ZG} (K : MC D ca p s m args meth c cL_law 9 RL) (hl0 : l.stackTraces = false) (hA : ∀ q, s.heap.size ≤ q → A q) (hZ : ZF z A s s.heap) (hS : va_X b0 L xs s s.heap ∧ b0 < s.heap.size ∧ ¬ A b0) (hroom : cells + 1 ≤ 601024 ∧ slots + 6 ≤ 7293034) {a1 : Int32} {a2 : Int32} (h1 : vp_in (I + 1) L ∧ xs (I + 1).toNatClampNeg = a1) (h2 : vp_in (I + 2) L ∧ xs (I + 2).toNatClampNeg = a2) {P : RowsS} {G : GlbS} {M : RowS} {O : Nat → Int64} {H : Heap} {locs : List Loc} {ls : Array Slot} (hok : OK_account Inv P G M a1 a2) (X : RX D A (wL ar ag ca am P G M ao O) s.heap H locs) (hl : lv_has ls 9 [(0, .ref b0), (1, .ref (ag 0)), (2, .ref (am 0)), (3, .ref ao), (4, .int I)]) (kk : LwAt p l e s m args below meth c Q D A ar ag ca am ao b0 I Inv (cells + 1) (slots + 6) 2302) : W p l e room_1 s m args below meth c H locs cells slots Q (F0 m 538 ls []) := by
  have hx := K.1
  have hb := K.2.1
  unfold OK_account at hok
  rcases hok with hok | hok
  · skip
    obtain ⟨n, res, n2, b, M', h7, h8, hT, hv, hI⟩ := hok
    refine lv_aload_n hx hb dL_law_538 rfl (lv_at hl 1 rfl) ?_
    refine lv_aload_n hx hb dL_law_539 rfl (lv_at hl 0 rfl) ?_
    refine lv_iload hx hb dL_law_540 (lv_at hl 4 rfl) ?_
    refine lv_iconst (v := 1) hx hb dL_law_542 (by decide) ?_
    refine lv_iadd hx hb dL_law_543 ?_
    refine x_sld K X hS h1 dL_law_544 ?_
    refine lv_aload_n hx hb dL_law_545 rfl (lv_at hl 0 rfl) ?_
    refine lv_iload hx hb dL_law_546 (lv_at hl 4 rfl) ?_
    refine lv_iconst (v := 2) hx hb dL_law_548 (by decide) ?_
    refine lv_iadd hx hb dL_law_549 ?_
    refine x_sld K X hS h2 dL_law_550 ?_
    refine lv_aload_n hx hb dL_law_551 rfl (lv_at hl 3 rfl) ?_
    have kx := n_L_account l D ca ar ag z n P G (wM am ca M) ao O a1 a2 res h7 H.size
    refine x_callSW K hA hZ X kx hl.1 4 q870 q871 q86 q872 hs_L_account ⟨⟨(Nat.le_of_ble_eq_true rfl), (Nat.le_of_ble_eq_true rfl)⟩, rfl, rfl⟩ rfl rfl (Nat.le_of_ble_eq_true rfl) dL_law_552 ⟨hroom.1, hroom.2⟩ rfl (fun H locs X => ?_)
    refine lv_istore (lv' := [(5, .int 0), (0, .ref b0), (1, .ref (ag 0)), (2, .ref (am 0)), (3, .ref ao), (4, .int I)]) hx hb dL_law_555 hl (by decide) rfl (fun ls hl => ?_)
    refine lv_aload_n hx hb dL_law_557 rfl (lv_at hl 3 rfl) ?_
    refine lv_aload_n hx hb dL_law_558 rfl (lv_at hl 1 rfl) ?_
    refine lv_iload hx hb dL_law_559 (lv_at hl 5 rfl) ?_
    refine lv_iconst (v := 1) hx hb dL_law_561 (by decide) ?_
    refine lv_iadd hx hb dL_law_562 ?_
    refine x_sld K X hS h1 dL_law_563 ?_
    refine lv_aload_n hx hb dL_law_564 rfl (lv_at hl 1 rfl) ?_
    refine lv_iload hx hb dL_law_565 (lv_at hl 5 rfl) ?_
    refine lv_iconst (v := 2) hx hb dL_law_567 (by decide) ?_
    refine lv_iadd hx hb dL_law_568 ?_
    refine x_sld K X hS h2 dL_law_569 ?_
    have X := X.perm wL_swap
    have kx := m_X8_account l D ca am n2 M (wC ar ag ca P G ++ [(ao, oc ca (va_up O 0 res))]) a1 a2 b M' h8 H.size
    refine x_callVw K hA X kx hl.1 2 q1701 q1702 q1703 q97 q1704 hv_X8_account ⟨⟨(Nat.le_of_ble_eq_true rfl), (Nat.le_of_ble_eq_true rfl)⟩, rfl, rfl⟩ pl_modo rfl rfl rfl rfl (Nat.le_of_ble_eq_true rfl) dL_law_570 ⟨(by show cells + 1 + 0 ≤ 601024; omega), (by show slots + 6 + 0 ≤ 7293034; omega)⟩ rfl (fun H locs X => ?_)
    have X := X.perm wL_swap.symm
    refine lv_lstore (lv' := [(6, .long b), (5, .int 0), (0, .ref b0), (1, .ref (ag 0)), (2, .ref (am 0)), (3, .ref ao), (4, .int I)]) hx hb dL_law_573 hl (by decide) rfl (fun ls hl => ?_)
    refine lv_aload_n hx hb dL_law_575 rfl (lv_at hl 4 rfl) ?_
    have X := X.perm wL_swap
    have kx := m_X8_thrown l D ca am M' (wC ar ag ca P G ++ [(ao, oc ca (va_up O 0 res))]) 0 hT H.size
    refine x_callVw K hA X kx hl.1 0 q1380 q1381 q1382 q97 q1383 hv_X8_thrown ⟨⟨(Nat.le_of_ble_eq_true rfl), (Nat.le_of_ble_eq_true rfl)⟩, rfl, rfl⟩ pl_modo rfl rfl rfl rfl (Nat.le_of_ble_eq_true rfl) dL_law_576 ⟨(by show cells + 1 + 0 ≤ 601024; omega), (by show slots + 6 + 0 ≤ 7293034; omega)⟩ rfl (fun H locs X => ?_)
    have X := X.perm wL_swap.symm
    refine lv_iload hx hb dL_law_579 (lv_at hl 1 rfl) ?_
    refine lv_icmp_eq (tgt := 586) hx hb dL_law_581 (by decide) (fun _ => ?_) (fun c1 => absurd rfl c1)
    refine lv_iload hx hb dL_law_586 (lv_at hl 1 rfl) ?_
    refine lv_if_ne (tgt := 602) hx hb dL_law_588 (by decide) (fun c1 => absurd rfl c1) (fun _ => ?_)
    refine lv_aload_n hx hb dL_law_591 rfl (lv_at hl 5 rfl) ?_
    refine lv_iconst (v := 0) hx hb dL_law_592 (by decide) ?_
    refine x_lald K X (241 + (wM am ca M').length) ctor_atw (vp_in_iff.mpr (by decide)) dL_law_593 ?_
    refine lv_lload hx hb dL_law_594 (lv_at hl 0 rfl) ?_
    refine w_beq (tgt := 602) K dL_law_596 dL_law_597 (by decide) (fun _ => ?_) (fun c1 => absurd (by rw [show (0 : Int32).toNatClampNeg = 0 from rfl, va_up_self]; exact hv) c1)
    refine lv_goto (tgt := 2302) hx hb dL_law_602 (by decide) ?_
    exact kk P G M' (va_up O 0 res) H locs ls hI X (lv_sub hl [2, 3, 4, 5, 6] rfl)
  · skip
    obtain ⟨n, n2, b, M', ht, h8, hT, hI⟩ := hok
    refine lv_aload_n hx hb dL_law_538 rfl (lv_at hl 1 rfl) ?_
    refine lv_aload_n hx hb dL_law_539 rfl (lv_at hl 0 rfl) ?_
    refine lv_iload hx hb dL_law_540 (lv_at hl 4 rfl) ?_
    refine lv_iconst (v := 1) hx hb dL_law_542 (by decide) ?_
    refine lv_iadd hx hb dL_law_543 ?_
    refine x_sld K X hS h1 dL_law_544 ?_
    refine lv_aload_n hx hb dL_law_545 rfl (lv_at hl 0 rfl) ?_
    refine lv_iload hx hb dL_law_546 (lv_at hl 4 rfl) ?_
    refine lv_iconst (v := 2) hx hb dL_law_548 (by decide) ?_
    refine lv_iadd hx hb dL_law_549 ?_
    refine x_sld K X hS h2 dL_law_550 ?_
    refine lv_aload_n hx hb dL_law_551 rfl (lv_at hl 3 rfl) ?_
    have kx := e1_L_account l D ca ar ag z hl0 n P G (wM am ca M) ao O a1 a2 ht H.size
    refine x_callSW K hA hZ X kx hl.1 4 q870 q871 q86 q872 hs_L_account ⟨⟨(Nat.le_of_ble_eq_true rfl), (Nat.le_of_ble_eq_true rfl)⟩, rfl, rfl⟩ rfl rfl (Nat.le_of_ble_eq_true rfl) dL_law_552 ⟨hroom.1, hroom.2⟩ rfl (fun H locs X => ?_)
    refine lv_istore (lv' := [(5, .int 1), (0, .ref b0), (1, .ref (ag 0)), (2, .ref (am 0)), (3, .ref ao), (4, .int I)]) hx hb dL_law_555 hl (by decide) rfl (fun ls hl => ?_)
    refine lv_aload_n hx hb dL_law_557 rfl (lv_at hl 3 rfl) ?_
    refine lv_aload_n hx hb dL_law_558 rfl (lv_at hl 1 rfl) ?_
    refine lv_iload hx hb dL_law_559 (lv_at hl 5 rfl) ?_
    refine lv_iconst (v := 1) hx hb dL_law_561 (by decide) ?_
    refine lv_iadd hx hb dL_law_562 ?_
    refine x_sld K X hS h1 dL_law_563 ?_
    refine lv_aload_n hx hb dL_law_564 rfl (lv_at hl 1 rfl) ?_
    refine lv_iload hx hb dL_law_565 (lv_at hl 5 rfl) ?_
    refine lv_iconst (v := 2) hx hb dL_law_567 (by decide) ?_
    refine lv_iadd hx hb dL_law_568 ?_
    refine x_sld K X hS h2 dL_law_569 ?_
    have X := X.perm wL_swap
    have kx := m_X8_account l D ca am n2 M (wC ar ag ca P G ++ [(ao, oc ca O)]) a1 a2 b M' h8 H.size
    refine x_callVw K hA X kx hl.1 2 q1701 q1702 q1703 q97 q1704 hv_X8_account ⟨⟨(Nat.le_of_ble_eq_true rfl), (Nat.le_of_ble_eq_true rfl)⟩, rfl, rfl⟩ pl_modo rfl rfl rfl rfl (Nat.le_of_ble_eq_true rfl) dL_law_570 ⟨(by show cells + 1 + 0 ≤ 601024; omega), (by show slots + 6 + 0 ≤ 7293034; omega)⟩ rfl (fun H locs X => ?_)
    have X := X.perm wL_swap.symm
    refine lv_lstore (lv' := [(6, .long b), (5, .int 1), (0, .ref b0), (1, .ref (ag 0)), (2, .ref (am 0)), (3, .ref ao), (4, .int I)]) hx hb dL_law_573 hl (by decide) rfl (fun ls hl => ?_)
    refine lv_aload_n hx hb dL_law_575 rfl (lv_at hl 4 rfl) ?_
    have X := X.perm wL_swap
    have kx := m_X8_thrown l D ca am M' (wC ar ag ca P G ++ [(ao, oc ca O)]) 1 hT H.size
    refine x_callVw K hA X kx hl.1 0 q1380 q1381 q1382 q97 q1383 hv_X8_thrown ⟨⟨(Nat.le_of_ble_eq_true rfl), (Nat.le_of_ble_eq_true rfl)⟩, rfl, rfl⟩ pl_modo rfl rfl rfl rfl (Nat.le_of_ble_eq_true rfl) dL_law_576 ⟨(by show cells + 1 + 0 ≤ 601024; omega), (by show slots + 6 + 0 ≤ 7293034; omega)⟩ rfl (fun H locs X => ?_)
    have X := X.perm wL_swap.symm
    refine lv_iload hx hb dL_law_579 (lv_at hl 1 rfl) ?_
    refine lv_icmp_eq (tgt := 586) hx hb dL_law_581 (by decide) (fun _ => ?_) (fun c1 => absurd rfl c1)
    refine lv_iload hx hb dL_law_586 (lv_at hl 1 rfl) ?_
    refine lv_if_ne (tgt := 602) hx hb dL_law_588 (by decide) (fun _ => ?_) (fun c1 => absurd c1 (by decide))
    refine lv_goto (tgt := 2302) hx hb dL_law_602 (by decide) ?_
    exact kk P G M' O H locs ls hI X (lv_sub hl [2, 3, 4, 5, 6] rfl)
-- case 7
def OK_tube (Inv : RowsS → GlbS → RowS → Prop) (P : RowsS) (G : GlbS) (M : RowS) (a1 : Int32) (a2 : Int32) : Prop :=
  (∃ (res : Int32) (n2 : Nat) (b : Int32) (M' : RowS), f_X7_tube P G a1 a2 = some res ∧ f_X8_tube n2 M a1 a2 = some (b, M') ∧ f_X8_thrown M' = 0 ∧ res.toInt64 = b.toInt64 ∧ Inv P G M') ∨
  (∃ (n2 : Nat) (b : Int32) (M' : RowS), t_X7_tube P G a1 a2 = some 1 ∧ f_X8_tube n2 M a1 a2 = some (b, M') ∧ f_X8_thrown M' = 1 ∧ Inv P G M')
set_option maxRecDepth 100000 in
set_option maxHeartbeats 4000000 in
theorem k_tube {p : Program} {l : Launch} {e : Env} {s : State} {m : MethodId} {args : Array Value} {below : List Frame} {meth : Method} {c : Code} {Q : State → Prop} {D : va_G} {A : Nat → Prop} {ar : Nat → Nat → Nat} {ag : Nat → Nat} {ca : Nat → ClassId} {am : Nat → Nat} {ao b0 L : Nat} {xs : Nat → Int32} {I : Int32} {Inv : RowsS → GlbS → RowS → Prop} {cells slots : Nat} {z : ZG} (K : MC D ca p s m args meth c cL_law 9 RL) (hl0 : l.stackTraces = false) (hA : ∀ q, s.heap.size ≤ q → A q) (hZ : ZF z A s s.heap) (hS : va_X b0 L xs s s.heap ∧ b0 < s.heap.size ∧ ¬ A b0) (hroom : cells + 1 ≤ 601024 ∧ slots + 6 ≤ 7293034) {a1 : Int32} {a2 : Int32} (h1 : vp_in (I + 1) L ∧ xs (I + 1).toNatClampNeg = a1) (h2 : vp_in (I + 2) L ∧ xs (I + 2).toNatClampNeg = a2) {P : RowsS} {G : GlbS} {M : RowS} {O : Nat → Int64} {H : Heap} {locs : List Loc} {ls : Array Slot} (hok : OK_tube Inv P G M a1 a2) (X : RX D A (wL ar ag ca am P G M ao O) s.heap H locs) (hl : lv_has ls 9 [(0, .ref b0), (1, .ref (ag 0)), (2, .ref (am 0)), (3, .ref ao), (4, .int I)]) (kk : LwAt p l e s m args below meth c Q D A ar ag ca am ao b0 I Inv (cells + 1) (slots + 6) 2302) : W p l e room_1 s m args below meth c H locs cells slots Q (F0 m 605 ls []) := by
  have hx := K.1
  have hb := K.2.1
  unfold OK_tube at hok
  rcases hok with hok | hok
  · skip
    obtain ⟨res, n2, b, M', h7, h8, hT, hv, hI⟩ := hok
    refine lv_aload_n hx hb dL_law_605 rfl (lv_at hl 1 rfl) ?_
    refine lv_aload_n hx hb dL_law_606 rfl (lv_at hl 0 rfl) ?_
    refine lv_iload hx hb dL_law_607 (lv_at hl 4 rfl) ?_
    refine lv_iconst (v := 1) hx hb dL_law_609 (by decide) ?_
    refine lv_iadd hx hb dL_law_610 ?_
    refine x_sld K X hS h1 dL_law_611 ?_
    refine lv_aload_n hx hb dL_law_612 rfl (lv_at hl 0 rfl) ?_
    refine lv_iload hx hb dL_law_613 (lv_at hl 4 rfl) ?_
    refine lv_iconst (v := 2) hx hb dL_law_615 (by decide) ?_
    refine lv_iadd hx hb dL_law_616 ?_
    refine x_sld K X hS h2 dL_law_617 ?_
    refine lv_aload_n hx hb dL_law_618 rfl (lv_at hl 3 rfl) ?_
    have kx := n_L_tube l D ca ar ag z P G (wM am ca M) ao O a1 a2 res h7 H.size
    refine x_callSW K hA hZ X kx hl.1 4 q879 q880 q86 q881 hs_L_tube ⟨⟨(Nat.le_of_ble_eq_true rfl), (Nat.le_of_ble_eq_true rfl)⟩, rfl, rfl⟩ rfl rfl (Nat.le_of_ble_eq_true rfl) dL_law_619 ⟨hroom.1, hroom.2⟩ rfl (fun H locs X => ?_)
    refine lv_istore (lv' := [(5, .int 0), (0, .ref b0), (1, .ref (ag 0)), (2, .ref (am 0)), (3, .ref ao), (4, .int I)]) hx hb dL_law_622 hl (by decide) rfl (fun ls hl => ?_)
    refine lv_aload_n hx hb dL_law_624 rfl (lv_at hl 3 rfl) ?_
    refine lv_aload_n hx hb dL_law_625 rfl (lv_at hl 1 rfl) ?_
    refine lv_iload hx hb dL_law_626 (lv_at hl 5 rfl) ?_
    refine lv_iconst (v := 1) hx hb dL_law_628 (by decide) ?_
    refine lv_iadd hx hb dL_law_629 ?_
    refine x_sld K X hS h1 dL_law_630 ?_
    refine lv_aload_n hx hb dL_law_631 rfl (lv_at hl 1 rfl) ?_
    refine lv_iload hx hb dL_law_632 (lv_at hl 5 rfl) ?_
    refine lv_iconst (v := 2) hx hb dL_law_634 (by decide) ?_
    refine lv_iadd hx hb dL_law_635 ?_
    refine x_sld K X hS h2 dL_law_636 ?_
    have X := X.perm wL_swap
    have kx := m_X8_tube l D ca am n2 M (wC ar ag ca P G ++ [(ao, oc ca (va_up O 0 res.toInt64))]) a1 a2 b M' h8 H.size
    refine x_callVw K hA X kx hl.1 2 q1710 q1711 q1712 q97 q1713 hv_X8_tube ⟨⟨(Nat.le_of_ble_eq_true rfl), (Nat.le_of_ble_eq_true rfl)⟩, rfl, rfl⟩ pl_modo rfl rfl rfl rfl (Nat.le_of_ble_eq_true rfl) dL_law_637 ⟨(by show cells + 1 + 0 ≤ 601024; omega), (by show slots + 6 + 0 ≤ 7293034; omega)⟩ rfl (fun H locs X => ?_)
    have X := X.perm wL_swap.symm
    refine lv_istore (lv' := [(6, .int b), (5, .int 0), (0, .ref b0), (1, .ref (ag 0)), (2, .ref (am 0)), (3, .ref ao), (4, .int I)]) hx hb dL_law_640 hl (by decide) rfl (fun ls hl => ?_)
    refine lv_aload_n hx hb dL_law_642 rfl (lv_at hl 4 rfl) ?_
    have X := X.perm wL_swap
    have kx := m_X8_thrown l D ca am M' (wC ar ag ca P G ++ [(ao, oc ca (va_up O 0 res.toInt64))]) 0 hT H.size
    refine x_callVw K hA X kx hl.1 0 q1380 q1381 q1382 q97 q1383 hv_X8_thrown ⟨⟨(Nat.le_of_ble_eq_true rfl), (Nat.le_of_ble_eq_true rfl)⟩, rfl, rfl⟩ pl_modo rfl rfl rfl rfl (Nat.le_of_ble_eq_true rfl) dL_law_643 ⟨(by show cells + 1 + 0 ≤ 601024; omega), (by show slots + 6 + 0 ≤ 7293034; omega)⟩ rfl (fun H locs X => ?_)
    have X := X.perm wL_swap.symm
    refine lv_iload hx hb dL_law_646 (lv_at hl 1 rfl) ?_
    refine lv_icmp_eq (tgt := 653) hx hb dL_law_648 (by decide) (fun _ => ?_) (fun c1 => absurd rfl c1)
    refine lv_iload hx hb dL_law_653 (lv_at hl 1 rfl) ?_
    refine lv_if_ne (tgt := 670) hx hb dL_law_655 (by decide) (fun c1 => absurd rfl c1) (fun _ => ?_)
    refine lv_aload_n hx hb dL_law_658 rfl (lv_at hl 5 rfl) ?_
    refine lv_iconst (v := 0) hx hb dL_law_659 (by decide) ?_
    refine x_lald K X (241 + (wM am ca M').length) ctor_atw (vp_in_iff.mpr (by decide)) dL_law_660 ?_
    refine lv_iload hx hb dL_law_661 (lv_at hl 0 rfl) ?_
    refine lv_i2l hx hb dL_law_663 rfl ?_
    refine w_beq (tgt := 670) K dL_law_664 dL_law_665 (by decide) (fun _ => ?_) (fun c1 => absurd (by rw [show (0 : Int32).toNatClampNeg = 0 from rfl, va_up_self]; exact hv) c1)
    refine lv_goto (tgt := 2302) hx hb dL_law_670 (by decide) ?_
    exact kk P G M' (va_up O 0 res.toInt64) H locs ls hI X (lv_sub hl [2, 3, 4, 5, 6] rfl)
  · skip
    obtain ⟨n2, b, M', ht, h8, hT, hI⟩ := hok
    refine lv_aload_n hx hb dL_law_605 rfl (lv_at hl 1 rfl) ?_
    refine lv_aload_n hx hb dL_law_606 rfl (lv_at hl 0 rfl) ?_
    refine lv_iload hx hb dL_law_607 (lv_at hl 4 rfl) ?_
    refine lv_iconst (v := 1) hx hb dL_law_609 (by decide) ?_
    refine lv_iadd hx hb dL_law_610 ?_
    refine x_sld K X hS h1 dL_law_611 ?_
    refine lv_aload_n hx hb dL_law_612 rfl (lv_at hl 0 rfl) ?_
    refine lv_iload hx hb dL_law_613 (lv_at hl 4 rfl) ?_
    refine lv_iconst (v := 2) hx hb dL_law_615 (by decide) ?_
    refine lv_iadd hx hb dL_law_616 ?_
    refine x_sld K X hS h2 dL_law_617 ?_
    refine lv_aload_n hx hb dL_law_618 rfl (lv_at hl 3 rfl) ?_
    have kx := e1_L_tube l D ca ar ag z hl0 P G (wM am ca M) ao O a1 a2 ht H.size
    refine x_callSW K hA hZ X kx hl.1 4 q879 q880 q86 q881 hs_L_tube ⟨⟨(Nat.le_of_ble_eq_true rfl), (Nat.le_of_ble_eq_true rfl)⟩, rfl, rfl⟩ rfl rfl (Nat.le_of_ble_eq_true rfl) dL_law_619 ⟨hroom.1, hroom.2⟩ rfl (fun H locs X => ?_)
    refine lv_istore (lv' := [(5, .int 1), (0, .ref b0), (1, .ref (ag 0)), (2, .ref (am 0)), (3, .ref ao), (4, .int I)]) hx hb dL_law_622 hl (by decide) rfl (fun ls hl => ?_)
    refine lv_aload_n hx hb dL_law_624 rfl (lv_at hl 3 rfl) ?_
    refine lv_aload_n hx hb dL_law_625 rfl (lv_at hl 1 rfl) ?_
    refine lv_iload hx hb dL_law_626 (lv_at hl 5 rfl) ?_
    refine lv_iconst (v := 1) hx hb dL_law_628 (by decide) ?_
    refine lv_iadd hx hb dL_law_629 ?_
    refine x_sld K X hS h1 dL_law_630 ?_
    refine lv_aload_n hx hb dL_law_631 rfl (lv_at hl 1 rfl) ?_
    refine lv_iload hx hb dL_law_632 (lv_at hl 5 rfl) ?_
    refine lv_iconst (v := 2) hx hb dL_law_634 (by decide) ?_
    refine lv_iadd hx hb dL_law_635 ?_
    refine x_sld K X hS h2 dL_law_636 ?_
    have X := X.perm wL_swap
    have kx := m_X8_tube l D ca am n2 M (wC ar ag ca P G ++ [(ao, oc ca O)]) a1 a2 b M' h8 H.size
    refine x_callVw K hA X kx hl.1 2 q1710 q1711 q1712 q97 q1713 hv_X8_tube ⟨⟨(Nat.le_of_ble_eq_true rfl), (Nat.le_of_ble_eq_true rfl)⟩, rfl, rfl⟩ pl_modo rfl rfl rfl rfl (Nat.le_of_ble_eq_true rfl) dL_law_637 ⟨(by show cells + 1 + 0 ≤ 601024; omega), (by show slots + 6 + 0 ≤ 7293034; omega)⟩ rfl (fun H locs X => ?_)
    have X := X.perm wL_swap.symm
    refine lv_istore (lv' := [(6, .int b), (5, .int 1), (0, .ref b0), (1, .ref (ag 0)), (2, .ref (am 0)), (3, .ref ao), (4, .int I)]) hx hb dL_law_640 hl (by decide) rfl (fun ls hl => ?_)
    refine lv_aload_n hx hb dL_law_642 rfl (lv_at hl 4 rfl) ?_
    have X := X.perm wL_swap
    have kx := m_X8_thrown l D ca am M' (wC ar ag ca P G ++ [(ao, oc ca O)]) 1 hT H.size
    refine x_callVw K hA X kx hl.1 0 q1380 q1381 q1382 q97 q1383 hv_X8_thrown ⟨⟨(Nat.le_of_ble_eq_true rfl), (Nat.le_of_ble_eq_true rfl)⟩, rfl, rfl⟩ pl_modo rfl rfl rfl rfl (Nat.le_of_ble_eq_true rfl) dL_law_643 ⟨(by show cells + 1 + 0 ≤ 601024; omega), (by show slots + 6 + 0 ≤ 7293034; omega)⟩ rfl (fun H locs X => ?_)
    have X := X.perm wL_swap.symm
    refine lv_iload hx hb dL_law_646 (lv_at hl 1 rfl) ?_
    refine lv_icmp_eq (tgt := 653) hx hb dL_law_648 (by decide) (fun _ => ?_) (fun c1 => absurd rfl c1)
    refine lv_iload hx hb dL_law_653 (lv_at hl 1 rfl) ?_
    refine lv_if_ne (tgt := 670) hx hb dL_law_655 (by decide) (fun _ => ?_) (fun c1 => absurd c1 (by decide))
    refine lv_goto (tgt := 2302) hx hb dL_law_670 (by decide) ?_
    exact kk P G M' O H locs ls hI X (lv_sub hl [2, 3, 4, 5, 6] rfl)
-- case 8
def OK_told (Inv : RowsS → GlbS → RowS → Prop) (P : RowsS) (G : GlbS) (M : RowS) (a1 : Int32) : Prop :=
  (∃ (res : Int32) (n2 : Nat) (b : Int32) (M' : RowS), f_X7_told P G a1 = some res ∧ f_X8_told n2 M a1 = some (b, M') ∧ f_X8_thrown M' = 0 ∧ res.toInt64 = b.toInt64 ∧ Inv P G M') ∨
  (∃ (n2 : Nat) (b : Int32) (M' : RowS), t_X7_told P G a1 = some 1 ∧ f_X8_told n2 M a1 = some (b, M') ∧ f_X8_thrown M' = 1 ∧ Inv P G M')
set_option maxRecDepth 100000 in
set_option maxHeartbeats 4000000 in
theorem k_told {p : Program} {l : Launch} {e : Env} {s : State} {m : MethodId} {args : Array Value} {below : List Frame} {meth : Method} {c : Code} {Q : State → Prop} {D : va_G} {A : Nat → Prop} {ar : Nat → Nat → Nat} {ag : Nat → Nat} {ca : Nat → ClassId} {am : Nat → Nat} {ao b0 L : Nat} {xs : Nat → Int32} {I : Int32} {Inv : RowsS → GlbS → RowS → Prop} {cells slots : Nat} {z : ZG} (K : MC D ca p s m args meth c cL_law 9 RL) (hl0 : l.stackTraces = false) (hA : ∀ q, s.heap.size ≤ q → A q) (hZ : ZF z A s s.heap) (hS : va_X b0 L xs s s.heap ∧ b0 < s.heap.size ∧ ¬ A b0) (hroom : cells + 1 ≤ 601024 ∧ slots + 6 ≤ 7293034) {a1 : Int32} (h1 : vp_in (I + 1) L ∧ xs (I + 1).toNatClampNeg = a1) {P : RowsS} {G : GlbS} {M : RowS} {O : Nat → Int64} {H : Heap} {locs : List Loc} {ls : Array Slot} (hok : OK_told Inv P G M a1) (X : RX D A (wL ar ag ca am P G M ao O) s.heap H locs) (hl : lv_has ls 9 [(0, .ref b0), (1, .ref (ag 0)), (2, .ref (am 0)), (3, .ref ao), (4, .int I)]) (kk : LwAt p l e s m args below meth c Q D A ar ag ca am ao b0 I Inv (cells + 1) (slots + 6) 2302) : W p l e room_1 s m args below meth c H locs cells slots Q (F0 m 673 ls []) := by
  have hx := K.1
  have hb := K.2.1
  unfold OK_told at hok
  rcases hok with hok | hok
  · skip
    obtain ⟨res, n2, b, M', h7, h8, hT, hv, hI⟩ := hok
    refine lv_aload_n hx hb dL_law_673 rfl (lv_at hl 1 rfl) ?_
    refine lv_aload_n hx hb dL_law_674 rfl (lv_at hl 0 rfl) ?_
    refine lv_iload hx hb dL_law_675 (lv_at hl 4 rfl) ?_
    refine lv_iconst (v := 1) hx hb dL_law_677 (by decide) ?_
    refine lv_iadd hx hb dL_law_678 ?_
    refine x_sld K X hS h1 dL_law_679 ?_
    refine lv_aload_n hx hb dL_law_680 rfl (lv_at hl 3 rfl) ?_
    have kx := n_L_told l D ca ar ag z P G (wM am ca M) ao O a1 res h7 H.size
    refine x_callSW K hA hZ X kx hl.1 3 q897 q898 q86 q899 hs_L_told ⟨⟨(Nat.le_of_ble_eq_true rfl), (Nat.le_of_ble_eq_true rfl)⟩, rfl, rfl⟩ rfl rfl (Nat.le_of_ble_eq_true rfl) dL_law_681 ⟨hroom.1, hroom.2⟩ rfl (fun H locs X => ?_)
    refine lv_istore (lv' := [(5, .int 0), (0, .ref b0), (1, .ref (ag 0)), (2, .ref (am 0)), (3, .ref ao), (4, .int I)]) hx hb dL_law_684 hl (by decide) rfl (fun ls hl => ?_)
    refine lv_aload_n hx hb dL_law_686 rfl (lv_at hl 3 rfl) ?_
    refine lv_aload_n hx hb dL_law_687 rfl (lv_at hl 1 rfl) ?_
    refine lv_iload hx hb dL_law_688 (lv_at hl 5 rfl) ?_
    refine lv_iconst (v := 1) hx hb dL_law_690 (by decide) ?_
    refine lv_iadd hx hb dL_law_691 ?_
    refine x_sld K X hS h1 dL_law_692 ?_
    have X := X.perm wL_swap
    have kx := m_X8_told l D ca am n2 M (wC ar ag ca P G ++ [(ao, oc ca (va_up O 0 res.toInt64))]) a1 b M' h8 H.size
    refine x_callVw K hA X kx hl.1 1 q1727 q1728 q1729 q97 q1730 hv_X8_told ⟨⟨(Nat.le_of_ble_eq_true rfl), (Nat.le_of_ble_eq_true rfl)⟩, rfl, rfl⟩ pl_modo rfl rfl rfl rfl (Nat.le_of_ble_eq_true rfl) dL_law_693 ⟨(by show cells + 1 + 0 ≤ 601024; omega), (by show slots + 6 + 0 ≤ 7293034; omega)⟩ rfl (fun H locs X => ?_)
    have X := X.perm wL_swap.symm
    refine lv_istore (lv' := [(6, .int b), (5, .int 0), (0, .ref b0), (1, .ref (ag 0)), (2, .ref (am 0)), (3, .ref ao), (4, .int I)]) hx hb dL_law_696 hl (by decide) rfl (fun ls hl => ?_)
    refine lv_aload_n hx hb dL_law_698 rfl (lv_at hl 4 rfl) ?_
    have X := X.perm wL_swap
    have kx := m_X8_thrown l D ca am M' (wC ar ag ca P G ++ [(ao, oc ca (va_up O 0 res.toInt64))]) 0 hT H.size
    refine x_callVw K hA X kx hl.1 0 q1380 q1381 q1382 q97 q1383 hv_X8_thrown ⟨⟨(Nat.le_of_ble_eq_true rfl), (Nat.le_of_ble_eq_true rfl)⟩, rfl, rfl⟩ pl_modo rfl rfl rfl rfl (Nat.le_of_ble_eq_true rfl) dL_law_699 ⟨(by show cells + 1 + 0 ≤ 601024; omega), (by show slots + 6 + 0 ≤ 7293034; omega)⟩ rfl (fun H locs X => ?_)
    have X := X.perm wL_swap.symm
    refine lv_iload hx hb dL_law_702 (lv_at hl 1 rfl) ?_
    refine lv_icmp_eq (tgt := 709) hx hb dL_law_704 (by decide) (fun _ => ?_) (fun c1 => absurd rfl c1)
    refine lv_iload hx hb dL_law_709 (lv_at hl 1 rfl) ?_
    refine lv_if_ne (tgt := 726) hx hb dL_law_711 (by decide) (fun c1 => absurd rfl c1) (fun _ => ?_)
    refine lv_aload_n hx hb dL_law_714 rfl (lv_at hl 5 rfl) ?_
    refine lv_iconst (v := 0) hx hb dL_law_715 (by decide) ?_
    refine x_lald K X (241 + (wM am ca M').length) ctor_atw (vp_in_iff.mpr (by decide)) dL_law_716 ?_
    refine lv_iload hx hb dL_law_717 (lv_at hl 0 rfl) ?_
    refine lv_i2l hx hb dL_law_719 rfl ?_
    refine w_beq (tgt := 726) K dL_law_720 dL_law_721 (by decide) (fun _ => ?_) (fun c1 => absurd (by rw [show (0 : Int32).toNatClampNeg = 0 from rfl, va_up_self]; exact hv) c1)
    refine lv_goto (tgt := 2302) hx hb dL_law_726 (by decide) ?_
    exact kk P G M' (va_up O 0 res.toInt64) H locs ls hI X (lv_sub hl [2, 3, 4, 5, 6] rfl)
  · skip
    obtain ⟨n2, b, M', ht, h8, hT, hI⟩ := hok
    refine lv_aload_n hx hb dL_law_673 rfl (lv_at hl 1 rfl) ?_
    refine lv_aload_n hx hb dL_law_674 rfl (lv_at hl 0 rfl) ?_
    refine lv_iload hx hb dL_law_675 (lv_at hl 4 rfl) ?_
    refine lv_iconst (v := 1) hx hb dL_law_677 (by decide) ?_
    refine lv_iadd hx hb dL_law_678 ?_
    refine x_sld K X hS h1 dL_law_679 ?_
    refine lv_aload_n hx hb dL_law_680 rfl (lv_at hl 3 rfl) ?_
    have kx := e1_L_told l D ca ar ag z hl0 P G (wM am ca M) ao O a1 ht H.size
    refine x_callSW K hA hZ X kx hl.1 3 q897 q898 q86 q899 hs_L_told ⟨⟨(Nat.le_of_ble_eq_true rfl), (Nat.le_of_ble_eq_true rfl)⟩, rfl, rfl⟩ rfl rfl (Nat.le_of_ble_eq_true rfl) dL_law_681 ⟨hroom.1, hroom.2⟩ rfl (fun H locs X => ?_)
    refine lv_istore (lv' := [(5, .int 1), (0, .ref b0), (1, .ref (ag 0)), (2, .ref (am 0)), (3, .ref ao), (4, .int I)]) hx hb dL_law_684 hl (by decide) rfl (fun ls hl => ?_)
    refine lv_aload_n hx hb dL_law_686 rfl (lv_at hl 3 rfl) ?_
    refine lv_aload_n hx hb dL_law_687 rfl (lv_at hl 1 rfl) ?_
    refine lv_iload hx hb dL_law_688 (lv_at hl 5 rfl) ?_
    refine lv_iconst (v := 1) hx hb dL_law_690 (by decide) ?_
    refine lv_iadd hx hb dL_law_691 ?_
    refine x_sld K X hS h1 dL_law_692 ?_
    have X := X.perm wL_swap
    have kx := m_X8_told l D ca am n2 M (wC ar ag ca P G ++ [(ao, oc ca O)]) a1 b M' h8 H.size
    refine x_callVw K hA X kx hl.1 1 q1727 q1728 q1729 q97 q1730 hv_X8_told ⟨⟨(Nat.le_of_ble_eq_true rfl), (Nat.le_of_ble_eq_true rfl)⟩, rfl, rfl⟩ pl_modo rfl rfl rfl rfl (Nat.le_of_ble_eq_true rfl) dL_law_693 ⟨(by show cells + 1 + 0 ≤ 601024; omega), (by show slots + 6 + 0 ≤ 7293034; omega)⟩ rfl (fun H locs X => ?_)
    have X := X.perm wL_swap.symm
    refine lv_istore (lv' := [(6, .int b), (5, .int 1), (0, .ref b0), (1, .ref (ag 0)), (2, .ref (am 0)), (3, .ref ao), (4, .int I)]) hx hb dL_law_696 hl (by decide) rfl (fun ls hl => ?_)
    refine lv_aload_n hx hb dL_law_698 rfl (lv_at hl 4 rfl) ?_
    have X := X.perm wL_swap
    have kx := m_X8_thrown l D ca am M' (wC ar ag ca P G ++ [(ao, oc ca O)]) 1 hT H.size
    refine x_callVw K hA X kx hl.1 0 q1380 q1381 q1382 q97 q1383 hv_X8_thrown ⟨⟨(Nat.le_of_ble_eq_true rfl), (Nat.le_of_ble_eq_true rfl)⟩, rfl, rfl⟩ pl_modo rfl rfl rfl rfl (Nat.le_of_ble_eq_true rfl) dL_law_699 ⟨(by show cells + 1 + 0 ≤ 601024; omega), (by show slots + 6 + 0 ≤ 7293034; omega)⟩ rfl (fun H locs X => ?_)
    have X := X.perm wL_swap.symm
    refine lv_iload hx hb dL_law_702 (lv_at hl 1 rfl) ?_
    refine lv_icmp_eq (tgt := 709) hx hb dL_law_704 (by decide) (fun _ => ?_) (fun c1 => absurd rfl c1)
    refine lv_iload hx hb dL_law_709 (lv_at hl 1 rfl) ?_
    refine lv_if_ne (tgt := 726) hx hb dL_law_711 (by decide) (fun _ => ?_) (fun c1 => absurd c1 (by decide))
    refine lv_goto (tgt := 2302) hx hb dL_law_726 (by decide) ?_
    exact kk P G M' O H locs ls hI X (lv_sub hl [2, 3, 4, 5, 6] rfl)
-- case 9
def OK_off (Inv : RowsS → GlbS → RowS → Prop) (P : RowsS) (G : GlbS) (M : RowS) (a1 : Int32) : Prop :=
  (∃ (res : Int32) (n2 : Nat) (b : Int32) (M' : RowS), f_X7_off P G a1 = some res ∧ f_X8_off n2 M a1 = some (b, M') ∧ f_X8_thrown M' = 0 ∧ res.toInt64 = b.toInt64 ∧ Inv P G M') ∨
  (∃ (n2 : Nat) (b : Int32) (M' : RowS), t_X7_off P G a1 = some 1 ∧ f_X8_off n2 M a1 = some (b, M') ∧ f_X8_thrown M' = 1 ∧ Inv P G M')
set_option maxRecDepth 100000 in
set_option maxHeartbeats 4000000 in
theorem k_off {p : Program} {l : Launch} {e : Env} {s : State} {m : MethodId} {args : Array Value} {below : List Frame} {meth : Method} {c : Code} {Q : State → Prop} {D : va_G} {A : Nat → Prop} {ar : Nat → Nat → Nat} {ag : Nat → Nat} {ca : Nat → ClassId} {am : Nat → Nat} {ao b0 L : Nat} {xs : Nat → Int32} {I : Int32} {Inv : RowsS → GlbS → RowS → Prop} {cells slots : Nat} {z : ZG} (K : MC D ca p s m args meth c cL_law 9 RL) (hl0 : l.stackTraces = false) (hA : ∀ q, s.heap.size ≤ q → A q) (hZ : ZF z A s s.heap) (hS : va_X b0 L xs s s.heap ∧ b0 < s.heap.size ∧ ¬ A b0) (hroom : cells + 1 ≤ 601024 ∧ slots + 6 ≤ 7293034) {a1 : Int32} (h1 : vp_in (I + 1) L ∧ xs (I + 1).toNatClampNeg = a1) {P : RowsS} {G : GlbS} {M : RowS} {O : Nat → Int64} {H : Heap} {locs : List Loc} {ls : Array Slot} (hok : OK_off Inv P G M a1) (X : RX D A (wL ar ag ca am P G M ao O) s.heap H locs) (hl : lv_has ls 9 [(0, .ref b0), (1, .ref (ag 0)), (2, .ref (am 0)), (3, .ref ao), (4, .int I)]) (kk : LwAt p l e s m args below meth c Q D A ar ag ca am ao b0 I Inv (cells + 1) (slots + 6) 2302) : W p l e room_1 s m args below meth c H locs cells slots Q (F0 m 729 ls []) := by
  have hx := K.1
  have hb := K.2.1
  unfold OK_off at hok
  rcases hok with hok | hok
  · skip
    obtain ⟨res, n2, b, M', h7, h8, hT, hv, hI⟩ := hok
    refine lv_aload_n hx hb dL_law_729 rfl (lv_at hl 1 rfl) ?_
    refine lv_aload_n hx hb dL_law_730 rfl (lv_at hl 0 rfl) ?_
    refine lv_iload hx hb dL_law_731 (lv_at hl 4 rfl) ?_
    refine lv_iconst (v := 1) hx hb dL_law_733 (by decide) ?_
    refine lv_iadd hx hb dL_law_734 ?_
    refine x_sld K X hS h1 dL_law_735 ?_
    refine lv_aload_n hx hb dL_law_736 rfl (lv_at hl 3 rfl) ?_
    have kx := n_L_off l D ca ar ag z P G (wM am ca M) ao O a1 res h7 H.size
    refine x_callSW K hA hZ X kx hl.1 3 q906 q907 q86 q908 hs_L_off ⟨⟨(Nat.le_of_ble_eq_true rfl), (Nat.le_of_ble_eq_true rfl)⟩, rfl, rfl⟩ rfl rfl (Nat.le_of_ble_eq_true rfl) dL_law_737 ⟨hroom.1, hroom.2⟩ rfl (fun H locs X => ?_)
    refine lv_istore (lv' := [(5, .int 0), (0, .ref b0), (1, .ref (ag 0)), (2, .ref (am 0)), (3, .ref ao), (4, .int I)]) hx hb dL_law_740 hl (by decide) rfl (fun ls hl => ?_)
    refine lv_aload_n hx hb dL_law_742 rfl (lv_at hl 3 rfl) ?_
    refine lv_aload_n hx hb dL_law_743 rfl (lv_at hl 1 rfl) ?_
    refine lv_iload hx hb dL_law_744 (lv_at hl 5 rfl) ?_
    refine lv_iconst (v := 1) hx hb dL_law_746 (by decide) ?_
    refine lv_iadd hx hb dL_law_747 ?_
    refine x_sld K X hS h1 dL_law_748 ?_
    have X := X.perm wL_swap
    have kx := m_X8_off l D ca am n2 M (wC ar ag ca P G ++ [(ao, oc ca (va_up O 0 res.toInt64))]) a1 b M' h8 H.size
    refine x_callVw K hA X kx hl.1 1 q1740 q1741 q1742 q97 q1743 hv_X8_off ⟨⟨(Nat.le_of_ble_eq_true rfl), (Nat.le_of_ble_eq_true rfl)⟩, rfl, rfl⟩ pl_modo rfl rfl rfl rfl (Nat.le_of_ble_eq_true rfl) dL_law_749 ⟨(by show cells + 1 + 0 ≤ 601024; omega), (by show slots + 6 + 0 ≤ 7293034; omega)⟩ rfl (fun H locs X => ?_)
    have X := X.perm wL_swap.symm
    refine lv_istore (lv' := [(6, .int b), (5, .int 0), (0, .ref b0), (1, .ref (ag 0)), (2, .ref (am 0)), (3, .ref ao), (4, .int I)]) hx hb dL_law_752 hl (by decide) rfl (fun ls hl => ?_)
    refine lv_aload_n hx hb dL_law_754 rfl (lv_at hl 4 rfl) ?_
    have X := X.perm wL_swap
    have kx := m_X8_thrown l D ca am M' (wC ar ag ca P G ++ [(ao, oc ca (va_up O 0 res.toInt64))]) 0 hT H.size
    refine x_callVw K hA X kx hl.1 0 q1380 q1381 q1382 q97 q1383 hv_X8_thrown ⟨⟨(Nat.le_of_ble_eq_true rfl), (Nat.le_of_ble_eq_true rfl)⟩, rfl, rfl⟩ pl_modo rfl rfl rfl rfl (Nat.le_of_ble_eq_true rfl) dL_law_755 ⟨(by show cells + 1 + 0 ≤ 601024; omega), (by show slots + 6 + 0 ≤ 7293034; omega)⟩ rfl (fun H locs X => ?_)
    have X := X.perm wL_swap.symm
    refine lv_iload hx hb dL_law_758 (lv_at hl 1 rfl) ?_
    refine lv_icmp_eq (tgt := 765) hx hb dL_law_760 (by decide) (fun _ => ?_) (fun c1 => absurd rfl c1)
    refine lv_iload hx hb dL_law_765 (lv_at hl 1 rfl) ?_
    refine lv_if_ne (tgt := 782) hx hb dL_law_767 (by decide) (fun c1 => absurd rfl c1) (fun _ => ?_)
    refine lv_aload_n hx hb dL_law_770 rfl (lv_at hl 5 rfl) ?_
    refine lv_iconst (v := 0) hx hb dL_law_771 (by decide) ?_
    refine x_lald K X (241 + (wM am ca M').length) ctor_atw (vp_in_iff.mpr (by decide)) dL_law_772 ?_
    refine lv_iload hx hb dL_law_773 (lv_at hl 0 rfl) ?_
    refine lv_i2l hx hb dL_law_775 rfl ?_
    refine w_beq (tgt := 782) K dL_law_776 dL_law_777 (by decide) (fun _ => ?_) (fun c1 => absurd (by rw [show (0 : Int32).toNatClampNeg = 0 from rfl, va_up_self]; exact hv) c1)
    refine lv_goto (tgt := 2302) hx hb dL_law_782 (by decide) ?_
    exact kk P G M' (va_up O 0 res.toInt64) H locs ls hI X (lv_sub hl [2, 3, 4, 5, 6] rfl)
  · skip
    obtain ⟨n2, b, M', ht, h8, hT, hI⟩ := hok
    refine lv_aload_n hx hb dL_law_729 rfl (lv_at hl 1 rfl) ?_
    refine lv_aload_n hx hb dL_law_730 rfl (lv_at hl 0 rfl) ?_
    refine lv_iload hx hb dL_law_731 (lv_at hl 4 rfl) ?_
    refine lv_iconst (v := 1) hx hb dL_law_733 (by decide) ?_
    refine lv_iadd hx hb dL_law_734 ?_
    refine x_sld K X hS h1 dL_law_735 ?_
    refine lv_aload_n hx hb dL_law_736 rfl (lv_at hl 3 rfl) ?_
    have kx := e1_L_off l D ca ar ag z hl0 P G (wM am ca M) ao O a1 ht H.size
    refine x_callSW K hA hZ X kx hl.1 3 q906 q907 q86 q908 hs_L_off ⟨⟨(Nat.le_of_ble_eq_true rfl), (Nat.le_of_ble_eq_true rfl)⟩, rfl, rfl⟩ rfl rfl (Nat.le_of_ble_eq_true rfl) dL_law_737 ⟨hroom.1, hroom.2⟩ rfl (fun H locs X => ?_)
    refine lv_istore (lv' := [(5, .int 1), (0, .ref b0), (1, .ref (ag 0)), (2, .ref (am 0)), (3, .ref ao), (4, .int I)]) hx hb dL_law_740 hl (by decide) rfl (fun ls hl => ?_)
    refine lv_aload_n hx hb dL_law_742 rfl (lv_at hl 3 rfl) ?_
    refine lv_aload_n hx hb dL_law_743 rfl (lv_at hl 1 rfl) ?_
    refine lv_iload hx hb dL_law_744 (lv_at hl 5 rfl) ?_
    refine lv_iconst (v := 1) hx hb dL_law_746 (by decide) ?_
    refine lv_iadd hx hb dL_law_747 ?_
    refine x_sld K X hS h1 dL_law_748 ?_
    have X := X.perm wL_swap
    have kx := m_X8_off l D ca am n2 M (wC ar ag ca P G ++ [(ao, oc ca O)]) a1 b M' h8 H.size
    refine x_callVw K hA X kx hl.1 1 q1740 q1741 q1742 q97 q1743 hv_X8_off ⟨⟨(Nat.le_of_ble_eq_true rfl), (Nat.le_of_ble_eq_true rfl)⟩, rfl, rfl⟩ pl_modo rfl rfl rfl rfl (Nat.le_of_ble_eq_true rfl) dL_law_749 ⟨(by show cells + 1 + 0 ≤ 601024; omega), (by show slots + 6 + 0 ≤ 7293034; omega)⟩ rfl (fun H locs X => ?_)
    have X := X.perm wL_swap.symm
    refine lv_istore (lv' := [(6, .int b), (5, .int 1), (0, .ref b0), (1, .ref (ag 0)), (2, .ref (am 0)), (3, .ref ao), (4, .int I)]) hx hb dL_law_752 hl (by decide) rfl (fun ls hl => ?_)
    refine lv_aload_n hx hb dL_law_754 rfl (lv_at hl 4 rfl) ?_
    have X := X.perm wL_swap
    have kx := m_X8_thrown l D ca am M' (wC ar ag ca P G ++ [(ao, oc ca O)]) 1 hT H.size
    refine x_callVw K hA X kx hl.1 0 q1380 q1381 q1382 q97 q1383 hv_X8_thrown ⟨⟨(Nat.le_of_ble_eq_true rfl), (Nat.le_of_ble_eq_true rfl)⟩, rfl, rfl⟩ pl_modo rfl rfl rfl rfl (Nat.le_of_ble_eq_true rfl) dL_law_755 ⟨(by show cells + 1 + 0 ≤ 601024; omega), (by show slots + 6 + 0 ≤ 7293034; omega)⟩ rfl (fun H locs X => ?_)
    have X := X.perm wL_swap.symm
    refine lv_iload hx hb dL_law_758 (lv_at hl 1 rfl) ?_
    refine lv_icmp_eq (tgt := 765) hx hb dL_law_760 (by decide) (fun _ => ?_) (fun c1 => absurd rfl c1)
    refine lv_iload hx hb dL_law_765 (lv_at hl 1 rfl) ?_
    refine lv_if_ne (tgt := 782) hx hb dL_law_767 (by decide) (fun _ => ?_) (fun c1 => absurd c1 (by decide))
    refine lv_goto (tgt := 2302) hx hb dL_law_782 (by decide) ?_
    exact kk P G M' O H locs ls hI X (lv_sub hl [2, 3, 4, 5, 6] rfl)
-- case 10
def OK_difference (Inv : RowsS → GlbS → RowS → Prop) (P : RowsS) (G : GlbS) (M : RowS) (a1 : Int32) (a2 : Int32) : Prop :=
  (∃ (res : Int32) (n2 : Nat) (b : Int32) (M' : RowS), f_X7_difference P G a1 a2 = some res ∧ f_X8_difference n2 M a1 a2 = some (b, M') ∧ f_X8_thrown M' = 0 ∧ res.toInt64 = b.toInt64 ∧ Inv P G M') ∨
  (∃ (n2 : Nat) (b : Int32) (M' : RowS), t_X7_difference P G a1 a2 = some 1 ∧ f_X8_difference n2 M a1 a2 = some (b, M') ∧ f_X8_thrown M' = 1 ∧ Inv P G M')
set_option maxRecDepth 100000 in
set_option maxHeartbeats 4000000 in
theorem k_difference {p : Program} {l : Launch} {e : Env} {s : State} {m : MethodId} {args : Array Value} {below : List Frame} {meth : Method} {c : Code} {Q : State → Prop} {D : va_G} {A : Nat → Prop} {ar : Nat → Nat → Nat} {ag : Nat → Nat} {ca : Nat → ClassId} {am : Nat → Nat} {ao b0 L : Nat} {xs : Nat → Int32} {I : Int32} {Inv : RowsS → GlbS → RowS → Prop} {cells slots : Nat} {z : ZG} (K : MC D ca p s m args meth c cL_law 9 RL) (hl0 : l.stackTraces = false) (hA : ∀ q, s.heap.size ≤ q → A q) (hZ : ZF z A s s.heap) (hS : va_X b0 L xs s s.heap ∧ b0 < s.heap.size ∧ ¬ A b0) (hroom : cells + 1 ≤ 601024 ∧ slots + 6 ≤ 7293034) {a1 : Int32} {a2 : Int32} (h1 : vp_in (I + 1) L ∧ xs (I + 1).toNatClampNeg = a1) (h2 : vp_in (I + 2) L ∧ xs (I + 2).toNatClampNeg = a2) {P : RowsS} {G : GlbS} {M : RowS} {O : Nat → Int64} {H : Heap} {locs : List Loc} {ls : Array Slot} (hok : OK_difference Inv P G M a1 a2) (X : RX D A (wL ar ag ca am P G M ao O) s.heap H locs) (hl : lv_has ls 9 [(0, .ref b0), (1, .ref (ag 0)), (2, .ref (am 0)), (3, .ref ao), (4, .int I)]) (kk : LwAt p l e s m args below meth c Q D A ar ag ca am ao b0 I Inv (cells + 1) (slots + 6) 2302) : W p l e room_1 s m args below meth c H locs cells slots Q (F0 m 785 ls []) := by
  have hx := K.1
  have hb := K.2.1
  unfold OK_difference at hok
  rcases hok with hok | hok
  · skip
    obtain ⟨res, n2, b, M', h7, h8, hT, hv, hI⟩ := hok
    refine lv_aload_n hx hb dL_law_785 rfl (lv_at hl 1 rfl) ?_
    refine lv_aload_n hx hb dL_law_786 rfl (lv_at hl 0 rfl) ?_
    refine lv_iload hx hb dL_law_787 (lv_at hl 4 rfl) ?_
    refine lv_iconst (v := 1) hx hb dL_law_789 (by decide) ?_
    refine lv_iadd hx hb dL_law_790 ?_
    refine x_sld K X hS h1 dL_law_791 ?_
    refine lv_aload_n hx hb dL_law_792 rfl (lv_at hl 0 rfl) ?_
    refine lv_iload hx hb dL_law_793 (lv_at hl 4 rfl) ?_
    refine lv_iconst (v := 2) hx hb dL_law_795 (by decide) ?_
    refine lv_iadd hx hb dL_law_796 ?_
    refine x_sld K X hS h2 dL_law_797 ?_
    refine lv_aload_n hx hb dL_law_798 rfl (lv_at hl 3 rfl) ?_
    have kx := n_L_difference l D ca ar ag z P G (wM am ca M) ao O a1 a2 res h7 H.size
    refine x_callSW K hA hZ X kx hl.1 4 q913 q914 q86 q915 hs_L_difference ⟨⟨(Nat.le_of_ble_eq_true rfl), (Nat.le_of_ble_eq_true rfl)⟩, rfl, rfl⟩ rfl rfl (Nat.le_of_ble_eq_true rfl) dL_law_799 ⟨hroom.1, hroom.2⟩ rfl (fun H locs X => ?_)
    refine lv_istore (lv' := [(5, .int 0), (0, .ref b0), (1, .ref (ag 0)), (2, .ref (am 0)), (3, .ref ao), (4, .int I)]) hx hb dL_law_802 hl (by decide) rfl (fun ls hl => ?_)
    refine lv_aload_n hx hb dL_law_804 rfl (lv_at hl 3 rfl) ?_
    refine lv_aload_n hx hb dL_law_805 rfl (lv_at hl 1 rfl) ?_
    refine lv_iload hx hb dL_law_806 (lv_at hl 5 rfl) ?_
    refine lv_iconst (v := 1) hx hb dL_law_808 (by decide) ?_
    refine lv_iadd hx hb dL_law_809 ?_
    refine x_sld K X hS h1 dL_law_810 ?_
    refine lv_aload_n hx hb dL_law_811 rfl (lv_at hl 1 rfl) ?_
    refine lv_iload hx hb dL_law_812 (lv_at hl 5 rfl) ?_
    refine lv_iconst (v := 2) hx hb dL_law_814 (by decide) ?_
    refine lv_iadd hx hb dL_law_815 ?_
    refine x_sld K X hS h2 dL_law_816 ?_
    have X := X.perm wL_swap
    have kx := m_X8_difference l D ca am n2 M (wC ar ag ca P G ++ [(ao, oc ca (va_up O 0 res.toInt64))]) a1 a2 b M' h8 H.size
    refine x_callVw K hA X kx hl.1 2 q1748 q1749 q1750 q97 q1751 hv_X8_difference ⟨⟨(Nat.le_of_ble_eq_true rfl), (Nat.le_of_ble_eq_true rfl)⟩, rfl, rfl⟩ pl_modo rfl rfl rfl rfl (Nat.le_of_ble_eq_true rfl) dL_law_817 ⟨(by show cells + 1 + 0 ≤ 601024; omega), (by show slots + 6 + 0 ≤ 7293034; omega)⟩ rfl (fun H locs X => ?_)
    have X := X.perm wL_swap.symm
    refine lv_istore (lv' := [(6, .int b), (5, .int 0), (0, .ref b0), (1, .ref (ag 0)), (2, .ref (am 0)), (3, .ref ao), (4, .int I)]) hx hb dL_law_820 hl (by decide) rfl (fun ls hl => ?_)
    refine lv_aload_n hx hb dL_law_822 rfl (lv_at hl 4 rfl) ?_
    have X := X.perm wL_swap
    have kx := m_X8_thrown l D ca am M' (wC ar ag ca P G ++ [(ao, oc ca (va_up O 0 res.toInt64))]) 0 hT H.size
    refine x_callVw K hA X kx hl.1 0 q1380 q1381 q1382 q97 q1383 hv_X8_thrown ⟨⟨(Nat.le_of_ble_eq_true rfl), (Nat.le_of_ble_eq_true rfl)⟩, rfl, rfl⟩ pl_modo rfl rfl rfl rfl (Nat.le_of_ble_eq_true rfl) dL_law_823 ⟨(by show cells + 1 + 0 ≤ 601024; omega), (by show slots + 6 + 0 ≤ 7293034; omega)⟩ rfl (fun H locs X => ?_)
    have X := X.perm wL_swap.symm
    refine lv_iload hx hb dL_law_826 (lv_at hl 1 rfl) ?_
    refine lv_icmp_eq (tgt := 833) hx hb dL_law_828 (by decide) (fun _ => ?_) (fun c1 => absurd rfl c1)
    refine lv_iload hx hb dL_law_833 (lv_at hl 1 rfl) ?_
    refine lv_if_ne (tgt := 850) hx hb dL_law_835 (by decide) (fun c1 => absurd rfl c1) (fun _ => ?_)
    refine lv_aload_n hx hb dL_law_838 rfl (lv_at hl 5 rfl) ?_
    refine lv_iconst (v := 0) hx hb dL_law_839 (by decide) ?_
    refine x_lald K X (241 + (wM am ca M').length) ctor_atw (vp_in_iff.mpr (by decide)) dL_law_840 ?_
    refine lv_iload hx hb dL_law_841 (lv_at hl 0 rfl) ?_
    refine lv_i2l hx hb dL_law_843 rfl ?_
    refine w_beq (tgt := 850) K dL_law_844 dL_law_845 (by decide) (fun _ => ?_) (fun c1 => absurd (by rw [show (0 : Int32).toNatClampNeg = 0 from rfl, va_up_self]; exact hv) c1)
    refine lv_goto (tgt := 2302) hx hb dL_law_850 (by decide) ?_
    exact kk P G M' (va_up O 0 res.toInt64) H locs ls hI X (lv_sub hl [2, 3, 4, 5, 6] rfl)
  · skip
    obtain ⟨n2, b, M', ht, h8, hT, hI⟩ := hok
    refine lv_aload_n hx hb dL_law_785 rfl (lv_at hl 1 rfl) ?_
    refine lv_aload_n hx hb dL_law_786 rfl (lv_at hl 0 rfl) ?_
    refine lv_iload hx hb dL_law_787 (lv_at hl 4 rfl) ?_
    refine lv_iconst (v := 1) hx hb dL_law_789 (by decide) ?_
    refine lv_iadd hx hb dL_law_790 ?_
    refine x_sld K X hS h1 dL_law_791 ?_
    refine lv_aload_n hx hb dL_law_792 rfl (lv_at hl 0 rfl) ?_
    refine lv_iload hx hb dL_law_793 (lv_at hl 4 rfl) ?_
    refine lv_iconst (v := 2) hx hb dL_law_795 (by decide) ?_
    refine lv_iadd hx hb dL_law_796 ?_
    refine x_sld K X hS h2 dL_law_797 ?_
    refine lv_aload_n hx hb dL_law_798 rfl (lv_at hl 3 rfl) ?_
    have kx := e1_L_difference l D ca ar ag z hl0 P G (wM am ca M) ao O a1 a2 ht H.size
    refine x_callSW K hA hZ X kx hl.1 4 q913 q914 q86 q915 hs_L_difference ⟨⟨(Nat.le_of_ble_eq_true rfl), (Nat.le_of_ble_eq_true rfl)⟩, rfl, rfl⟩ rfl rfl (Nat.le_of_ble_eq_true rfl) dL_law_799 ⟨hroom.1, hroom.2⟩ rfl (fun H locs X => ?_)
    refine lv_istore (lv' := [(5, .int 1), (0, .ref b0), (1, .ref (ag 0)), (2, .ref (am 0)), (3, .ref ao), (4, .int I)]) hx hb dL_law_802 hl (by decide) rfl (fun ls hl => ?_)
    refine lv_aload_n hx hb dL_law_804 rfl (lv_at hl 3 rfl) ?_
    refine lv_aload_n hx hb dL_law_805 rfl (lv_at hl 1 rfl) ?_
    refine lv_iload hx hb dL_law_806 (lv_at hl 5 rfl) ?_
    refine lv_iconst (v := 1) hx hb dL_law_808 (by decide) ?_
    refine lv_iadd hx hb dL_law_809 ?_
    refine x_sld K X hS h1 dL_law_810 ?_
    refine lv_aload_n hx hb dL_law_811 rfl (lv_at hl 1 rfl) ?_
    refine lv_iload hx hb dL_law_812 (lv_at hl 5 rfl) ?_
    refine lv_iconst (v := 2) hx hb dL_law_814 (by decide) ?_
    refine lv_iadd hx hb dL_law_815 ?_
    refine x_sld K X hS h2 dL_law_816 ?_
    have X := X.perm wL_swap
    have kx := m_X8_difference l D ca am n2 M (wC ar ag ca P G ++ [(ao, oc ca O)]) a1 a2 b M' h8 H.size
    refine x_callVw K hA X kx hl.1 2 q1748 q1749 q1750 q97 q1751 hv_X8_difference ⟨⟨(Nat.le_of_ble_eq_true rfl), (Nat.le_of_ble_eq_true rfl)⟩, rfl, rfl⟩ pl_modo rfl rfl rfl rfl (Nat.le_of_ble_eq_true rfl) dL_law_817 ⟨(by show cells + 1 + 0 ≤ 601024; omega), (by show slots + 6 + 0 ≤ 7293034; omega)⟩ rfl (fun H locs X => ?_)
    have X := X.perm wL_swap.symm
    refine lv_istore (lv' := [(6, .int b), (5, .int 1), (0, .ref b0), (1, .ref (ag 0)), (2, .ref (am 0)), (3, .ref ao), (4, .int I)]) hx hb dL_law_820 hl (by decide) rfl (fun ls hl => ?_)
    refine lv_aload_n hx hb dL_law_822 rfl (lv_at hl 4 rfl) ?_
    have X := X.perm wL_swap
    have kx := m_X8_thrown l D ca am M' (wC ar ag ca P G ++ [(ao, oc ca O)]) 1 hT H.size
    refine x_callVw K hA X kx hl.1 0 q1380 q1381 q1382 q97 q1383 hv_X8_thrown ⟨⟨(Nat.le_of_ble_eq_true rfl), (Nat.le_of_ble_eq_true rfl)⟩, rfl, rfl⟩ pl_modo rfl rfl rfl rfl (Nat.le_of_ble_eq_true rfl) dL_law_823 ⟨(by show cells + 1 + 0 ≤ 601024; omega), (by show slots + 6 + 0 ≤ 7293034; omega)⟩ rfl (fun H locs X => ?_)
    have X := X.perm wL_swap.symm
    refine lv_iload hx hb dL_law_826 (lv_at hl 1 rfl) ?_
    refine lv_icmp_eq (tgt := 833) hx hb dL_law_828 (by decide) (fun _ => ?_) (fun c1 => absurd rfl c1)
    refine lv_iload hx hb dL_law_833 (lv_at hl 1 rfl) ?_
    refine lv_if_ne (tgt := 850) hx hb dL_law_835 (by decide) (fun _ => ?_) (fun c1 => absurd c1 (by decide))
    refine lv_goto (tgt := 2302) hx hb dL_law_850 (by decide) ?_
    exact kk P G M' O H locs ls hI X (lv_sub hl [2, 3, 4, 5, 6] rfl)
-- case 11
def OK_ring (Inv : RowsS → GlbS → RowS → Prop) (P : RowsS) (G : GlbS) (M : RowS) : Prop :=
  (∃ (n : Nat) (res : Int32) (n2 : Nat) (b : Int32) (M' : RowS), f_X7_ring n P G = some res ∧ f_X8_ring n2 M = some (b, M') ∧ res = b ∧ Inv P G M')
set_option maxRecDepth 100000 in
set_option maxHeartbeats 4000000 in
theorem k_ring {p : Program} {l : Launch} {e : Env} {s : State} {m : MethodId} {args : Array Value} {below : List Frame} {meth : Method} {c : Code} {Q : State → Prop} {D : va_G} {A : Nat → Prop} {ar : Nat → Nat → Nat} {ag : Nat → Nat} {ca : Nat → ClassId} {am : Nat → Nat} {ao b0 L : Nat} {xs : Nat → Int32} {I : Int32} {Inv : RowsS → GlbS → RowS → Prop} {cells slots : Nat} {z : ZG} (K : MC D ca p s m args meth c cL_law 9 RL) (hl0 : l.stackTraces = false) (hA : ∀ q, s.heap.size ≤ q → A q) (hZ : ZF z A s s.heap) (hS : va_X b0 L xs s s.heap ∧ b0 < s.heap.size ∧ ¬ A b0) (hroom : cells + 1 ≤ 601024 ∧ slots + 6 ≤ 7293034) {P : RowsS} {G : GlbS} {M : RowS} {O : Nat → Int64} {H : Heap} {locs : List Loc} {ls : Array Slot} (hok : OK_ring Inv P G M) (X : RX D A (wL ar ag ca am P G M ao O) s.heap H locs) (hl : lv_has ls 9 [(0, .ref b0), (1, .ref (ag 0)), (2, .ref (am 0)), (3, .ref ao), (4, .int I)]) (kk : LwAt p l e s m args below meth c Q D A ar ag ca am ao b0 I Inv (cells + 1) (slots + 6) 2302) : W p l e room_1 s m args below meth c H locs cells slots Q (F0 m 853 ls []) := by
  have hx := K.1
  have hb := K.2.1
  obtain ⟨n, res, n2, b, M', h7, h8, hv, hI⟩ := hok
  refine lv_aload_n hx hb dL_law_853 rfl (lv_at hl 1 rfl) ?_
  have kx := m_X7_ring l D ca ar ag n P G (wM am ca M ++ [(ao, oc ca O)]) res h7 H.size
  refine x_callVw K hA X kx hl.1 0 q399 q400 q401 q87 q402 hv_X7_ring ⟨⟨(Nat.le_of_ble_eq_true rfl), (Nat.le_of_ble_eq_true rfl)⟩, rfl, rfl⟩ (pl_glb (k := 0) (by decide)) rfl rfl rfl rfl (Nat.le_of_ble_eq_true rfl) dL_law_854 ⟨(by show cells + 0 ≤ 601024; omega), (by show slots + 0 ≤ 7293034; omega)⟩ rfl (fun H locs X => ?_)
  refine lv_aload_n hx hb dL_law_857 rfl (lv_at hl 2 rfl) ?_
  have X := X.perm wL_swap
  have kx := m_X8_ring l D ca am n2 M (wC ar ag ca P G ++ [(ao, oc ca O)]) b M' h8 H.size
  refine x_callVw K hA X kx hl.1 0 q1756 q1757 q1758 q97 q1759 hv_X8_ring ⟨⟨(Nat.le_of_ble_eq_true rfl), (Nat.le_of_ble_eq_true rfl)⟩, rfl, rfl⟩ pl_modo rfl rfl rfl rfl (Nat.le_of_ble_eq_true rfl) dL_law_858 ⟨(by show cells + 0 ≤ 601024; omega), (by show slots + 0 ≤ 7293034; omega)⟩ rfl (fun H locs X => ?_)
  have X := X.perm wL_swap.symm
  refine lv_icmp_eq (tgt := 2302) hx hb dL_law_861 (by decide) (fun _ => ?_) (fun c1 => absurd hv c1)
  exact w_widen (Nat.le_add_right cells 1) (Nat.le_add_right slots 6) (kk P G M' O H locs ls hI X (lv_sub hl [0, 1, 2, 3, 4] rfl))
-- case 12
def OK_room (Inv : RowsS → GlbS → RowS → Prop) (P : RowsS) (G : GlbS) (M : RowS) (a1 : Int32) : Prop :=
  (∃ (res : Int32) (n2 : Nat) (b : Int32) (M' : RowS), f_X7_room P G a1 = some res ∧ f_X8_room n2 M a1 = some (b, M') ∧ f_X8_thrown M' = 0 ∧ res.toInt64 = b.toInt64 ∧ Inv P G M') ∨
  (∃ (n2 : Nat) (b : Int32) (M' : RowS), t_X7_room P G a1 = some 1 ∧ f_X8_room n2 M a1 = some (b, M') ∧ f_X8_thrown M' = 1 ∧ Inv P G M')
set_option maxRecDepth 100000 in
set_option maxHeartbeats 4000000 in
theorem k_room {p : Program} {l : Launch} {e : Env} {s : State} {m : MethodId} {args : Array Value} {below : List Frame} {meth : Method} {c : Code} {Q : State → Prop} {D : va_G} {A : Nat → Prop} {ar : Nat → Nat → Nat} {ag : Nat → Nat} {ca : Nat → ClassId} {am : Nat → Nat} {ao b0 L : Nat} {xs : Nat → Int32} {I : Int32} {Inv : RowsS → GlbS → RowS → Prop} {cells slots : Nat} {z : ZG} (K : MC D ca p s m args meth c cL_law 9 RL) (hl0 : l.stackTraces = false) (hA : ∀ q, s.heap.size ≤ q → A q) (hZ : ZF z A s s.heap) (hS : va_X b0 L xs s s.heap ∧ b0 < s.heap.size ∧ ¬ A b0) (hroom : cells + 1 ≤ 601024 ∧ slots + 6 ≤ 7293034) {a1 : Int32} (h1 : vp_in (I + 1) L ∧ xs (I + 1).toNatClampNeg = a1) {P : RowsS} {G : GlbS} {M : RowS} {O : Nat → Int64} {H : Heap} {locs : List Loc} {ls : Array Slot} (hok : OK_room Inv P G M a1) (X : RX D A (wL ar ag ca am P G M ao O) s.heap H locs) (hl : lv_has ls 9 [(0, .ref b0), (1, .ref (ag 0)), (2, .ref (am 0)), (3, .ref ao), (4, .int I)]) (kk : LwAt p l e s m args below meth c Q D A ar ag ca am ao b0 I Inv (cells + 1) (slots + 6) 2302) : W p l e room_1 s m args below meth c H locs cells slots Q (F0 m 866 ls []) := by
  have hx := K.1
  have hb := K.2.1
  unfold OK_room at hok
  rcases hok with hok | hok
  · skip
    obtain ⟨res, n2, b, M', h7, h8, hT, hv, hI⟩ := hok
    refine lv_aload_n hx hb dL_law_866 rfl (lv_at hl 1 rfl) ?_
    refine lv_aload_n hx hb dL_law_867 rfl (lv_at hl 0 rfl) ?_
    refine lv_iload hx hb dL_law_868 (lv_at hl 4 rfl) ?_
    refine lv_iconst (v := 1) hx hb dL_law_870 (by decide) ?_
    refine lv_iadd hx hb dL_law_871 ?_
    refine x_sld K X hS h1 dL_law_872 ?_
    refine lv_aload_n hx hb dL_law_873 rfl (lv_at hl 3 rfl) ?_
    have kx := n_L_room l D ca ar ag z P G (wM am ca M) ao O a1 res h7 H.size
    refine x_callSW K hA hZ X kx hl.1 3 q920 q921 q86 q922 hs_L_room ⟨⟨(Nat.le_of_ble_eq_true rfl), (Nat.le_of_ble_eq_true rfl)⟩, rfl, rfl⟩ rfl rfl (Nat.le_of_ble_eq_true rfl) dL_law_874 ⟨hroom.1, hroom.2⟩ rfl (fun H locs X => ?_)
    refine lv_istore (lv' := [(5, .int 0), (0, .ref b0), (1, .ref (ag 0)), (2, .ref (am 0)), (3, .ref ao), (4, .int I)]) hx hb dL_law_877 hl (by decide) rfl (fun ls hl => ?_)
    refine lv_aload_n hx hb dL_law_879 rfl (lv_at hl 3 rfl) ?_
    refine lv_aload_n hx hb dL_law_880 rfl (lv_at hl 1 rfl) ?_
    refine lv_iload hx hb dL_law_881 (lv_at hl 5 rfl) ?_
    refine lv_iconst (v := 1) hx hb dL_law_883 (by decide) ?_
    refine lv_iadd hx hb dL_law_884 ?_
    refine x_sld K X hS h1 dL_law_885 ?_
    have X := X.perm wL_swap
    have kx := m_X8_room l D ca am n2 M (wC ar ag ca P G ++ [(ao, oc ca (va_up O 0 res.toInt64))]) a1 b M' h8 H.size
    refine x_callVw K hA X kx hl.1 1 q1764 q1765 q1766 q97 q1767 hv_X8_room ⟨⟨(Nat.le_of_ble_eq_true rfl), (Nat.le_of_ble_eq_true rfl)⟩, rfl, rfl⟩ pl_modo rfl rfl rfl rfl (Nat.le_of_ble_eq_true rfl) dL_law_886 ⟨(by show cells + 1 + 0 ≤ 601024; omega), (by show slots + 6 + 0 ≤ 7293034; omega)⟩ rfl (fun H locs X => ?_)
    have X := X.perm wL_swap.symm
    refine lv_istore (lv' := [(6, .int b), (5, .int 0), (0, .ref b0), (1, .ref (ag 0)), (2, .ref (am 0)), (3, .ref ao), (4, .int I)]) hx hb dL_law_889 hl (by decide) rfl (fun ls hl => ?_)
    refine lv_aload_n hx hb dL_law_891 rfl (lv_at hl 4 rfl) ?_
    have X := X.perm wL_swap
    have kx := m_X8_thrown l D ca am M' (wC ar ag ca P G ++ [(ao, oc ca (va_up O 0 res.toInt64))]) 0 hT H.size
    refine x_callVw K hA X kx hl.1 0 q1380 q1381 q1382 q97 q1383 hv_X8_thrown ⟨⟨(Nat.le_of_ble_eq_true rfl), (Nat.le_of_ble_eq_true rfl)⟩, rfl, rfl⟩ pl_modo rfl rfl rfl rfl (Nat.le_of_ble_eq_true rfl) dL_law_892 ⟨(by show cells + 1 + 0 ≤ 601024; omega), (by show slots + 6 + 0 ≤ 7293034; omega)⟩ rfl (fun H locs X => ?_)
    have X := X.perm wL_swap.symm
    refine lv_iload hx hb dL_law_895 (lv_at hl 1 rfl) ?_
    refine lv_icmp_eq (tgt := 902) hx hb dL_law_897 (by decide) (fun _ => ?_) (fun c1 => absurd rfl c1)
    refine lv_iload hx hb dL_law_902 (lv_at hl 1 rfl) ?_
    refine lv_if_ne (tgt := 919) hx hb dL_law_904 (by decide) (fun c1 => absurd rfl c1) (fun _ => ?_)
    refine lv_aload_n hx hb dL_law_907 rfl (lv_at hl 5 rfl) ?_
    refine lv_iconst (v := 0) hx hb dL_law_908 (by decide) ?_
    refine x_lald K X (241 + (wM am ca M').length) ctor_atw (vp_in_iff.mpr (by decide)) dL_law_909 ?_
    refine lv_iload hx hb dL_law_910 (lv_at hl 0 rfl) ?_
    refine lv_i2l hx hb dL_law_912 rfl ?_
    refine w_beq (tgt := 919) K dL_law_913 dL_law_914 (by decide) (fun _ => ?_) (fun c1 => absurd (by rw [show (0 : Int32).toNatClampNeg = 0 from rfl, va_up_self]; exact hv) c1)
    refine lv_goto (tgt := 2302) hx hb dL_law_919 (by decide) ?_
    exact kk P G M' (va_up O 0 res.toInt64) H locs ls hI X (lv_sub hl [2, 3, 4, 5, 6] rfl)
  · skip
    obtain ⟨n2, b, M', ht, h8, hT, hI⟩ := hok
    refine lv_aload_n hx hb dL_law_866 rfl (lv_at hl 1 rfl) ?_
    refine lv_aload_n hx hb dL_law_867 rfl (lv_at hl 0 rfl) ?_
    refine lv_iload hx hb dL_law_868 (lv_at hl 4 rfl) ?_
    refine lv_iconst (v := 1) hx hb dL_law_870 (by decide) ?_
    refine lv_iadd hx hb dL_law_871 ?_
    refine x_sld K X hS h1 dL_law_872 ?_
    refine lv_aload_n hx hb dL_law_873 rfl (lv_at hl 3 rfl) ?_
    have kx := e1_L_room l D ca ar ag z hl0 P G (wM am ca M) ao O a1 ht H.size
    refine x_callSW K hA hZ X kx hl.1 3 q920 q921 q86 q922 hs_L_room ⟨⟨(Nat.le_of_ble_eq_true rfl), (Nat.le_of_ble_eq_true rfl)⟩, rfl, rfl⟩ rfl rfl (Nat.le_of_ble_eq_true rfl) dL_law_874 ⟨hroom.1, hroom.2⟩ rfl (fun H locs X => ?_)
    refine lv_istore (lv' := [(5, .int 1), (0, .ref b0), (1, .ref (ag 0)), (2, .ref (am 0)), (3, .ref ao), (4, .int I)]) hx hb dL_law_877 hl (by decide) rfl (fun ls hl => ?_)
    refine lv_aload_n hx hb dL_law_879 rfl (lv_at hl 3 rfl) ?_
    refine lv_aload_n hx hb dL_law_880 rfl (lv_at hl 1 rfl) ?_
    refine lv_iload hx hb dL_law_881 (lv_at hl 5 rfl) ?_
    refine lv_iconst (v := 1) hx hb dL_law_883 (by decide) ?_
    refine lv_iadd hx hb dL_law_884 ?_
    refine x_sld K X hS h1 dL_law_885 ?_
    have X := X.perm wL_swap
    have kx := m_X8_room l D ca am n2 M (wC ar ag ca P G ++ [(ao, oc ca O)]) a1 b M' h8 H.size
    refine x_callVw K hA X kx hl.1 1 q1764 q1765 q1766 q97 q1767 hv_X8_room ⟨⟨(Nat.le_of_ble_eq_true rfl), (Nat.le_of_ble_eq_true rfl)⟩, rfl, rfl⟩ pl_modo rfl rfl rfl rfl (Nat.le_of_ble_eq_true rfl) dL_law_886 ⟨(by show cells + 1 + 0 ≤ 601024; omega), (by show slots + 6 + 0 ≤ 7293034; omega)⟩ rfl (fun H locs X => ?_)
    have X := X.perm wL_swap.symm
    refine lv_istore (lv' := [(6, .int b), (5, .int 1), (0, .ref b0), (1, .ref (ag 0)), (2, .ref (am 0)), (3, .ref ao), (4, .int I)]) hx hb dL_law_889 hl (by decide) rfl (fun ls hl => ?_)
    refine lv_aload_n hx hb dL_law_891 rfl (lv_at hl 4 rfl) ?_
    have X := X.perm wL_swap
    have kx := m_X8_thrown l D ca am M' (wC ar ag ca P G ++ [(ao, oc ca O)]) 1 hT H.size
    refine x_callVw K hA X kx hl.1 0 q1380 q1381 q1382 q97 q1383 hv_X8_thrown ⟨⟨(Nat.le_of_ble_eq_true rfl), (Nat.le_of_ble_eq_true rfl)⟩, rfl, rfl⟩ pl_modo rfl rfl rfl rfl (Nat.le_of_ble_eq_true rfl) dL_law_892 ⟨(by show cells + 1 + 0 ≤ 601024; omega), (by show slots + 6 + 0 ≤ 7293034; omega)⟩ rfl (fun H locs X => ?_)
    have X := X.perm wL_swap.symm
    refine lv_iload hx hb dL_law_895 (lv_at hl 1 rfl) ?_
    refine lv_icmp_eq (tgt := 902) hx hb dL_law_897 (by decide) (fun _ => ?_) (fun c1 => absurd rfl c1)
    refine lv_iload hx hb dL_law_902 (lv_at hl 1 rfl) ?_
    refine lv_if_ne (tgt := 919) hx hb dL_law_904 (by decide) (fun _ => ?_) (fun c1 => absurd c1 (by decide))
    refine lv_goto (tgt := 2302) hx hb dL_law_919 (by decide) ?_
    exact kk P G M' O H locs ls hI X (lv_sub hl [2, 3, 4, 5, 6] rfl)
-- case 13
def OK_longest (Inv : RowsS → GlbS → RowS → Prop) (P : RowsS) (G : GlbS) (M : RowS) : Prop :=
  (∃ (n : Nat) (res : Int32) (n2 : Nat) (b : Int32) (M' : RowS), f_X7_longest n P G = some res ∧ f_X8_longest n2 M = some (b, M') ∧ res = b ∧ Inv P G M')
set_option maxRecDepth 100000 in
set_option maxHeartbeats 4000000 in
theorem k_longest {p : Program} {l : Launch} {e : Env} {s : State} {m : MethodId} {args : Array Value} {below : List Frame} {meth : Method} {c : Code} {Q : State → Prop} {D : va_G} {A : Nat → Prop} {ar : Nat → Nat → Nat} {ag : Nat → Nat} {ca : Nat → ClassId} {am : Nat → Nat} {ao b0 L : Nat} {xs : Nat → Int32} {I : Int32} {Inv : RowsS → GlbS → RowS → Prop} {cells slots : Nat} {z : ZG} (K : MC D ca p s m args meth c cL_law 9 RL) (hl0 : l.stackTraces = false) (hA : ∀ q, s.heap.size ≤ q → A q) (hZ : ZF z A s s.heap) (hS : va_X b0 L xs s s.heap ∧ b0 < s.heap.size ∧ ¬ A b0) (hroom : cells + 1 ≤ 601024 ∧ slots + 6 ≤ 7293034) {P : RowsS} {G : GlbS} {M : RowS} {O : Nat → Int64} {H : Heap} {locs : List Loc} {ls : Array Slot} (hok : OK_longest Inv P G M) (X : RX D A (wL ar ag ca am P G M ao O) s.heap H locs) (hl : lv_has ls 9 [(0, .ref b0), (1, .ref (ag 0)), (2, .ref (am 0)), (3, .ref ao), (4, .int I)]) (kk : LwAt p l e s m args below meth c Q D A ar ag ca am ao b0 I Inv (cells + 1) (slots + 6) 2302) : W p l e room_1 s m args below meth c H locs cells slots Q (F0 m 922 ls []) := by
  have hx := K.1
  have hb := K.2.1
  obtain ⟨n, res, n2, b, M', h7, h8, hv, hI⟩ := hok
  refine lv_aload_n hx hb dL_law_922 rfl (lv_at hl 1 rfl) ?_
  have kx := m_X7_longest l D ca ar ag n P G (wM am ca M ++ [(ao, oc ca O)]) res h7 H.size
  refine x_callVw K hA X kx hl.1 0 q424 q425 q426 q87 q427 hv_X7_longest ⟨⟨(Nat.le_of_ble_eq_true rfl), (Nat.le_of_ble_eq_true rfl)⟩, rfl, rfl⟩ (pl_glb (k := 0) (by decide)) rfl rfl rfl rfl (Nat.le_of_ble_eq_true rfl) dL_law_923 ⟨(by show cells + 0 ≤ 601024; omega), (by show slots + 0 ≤ 7293034; omega)⟩ rfl (fun H locs X => ?_)
  refine lv_aload_n hx hb dL_law_926 rfl (lv_at hl 2 rfl) ?_
  have X := X.perm wL_swap
  have kx := m_X8_longest l D ca am n2 M (wC ar ag ca P G ++ [(ao, oc ca O)]) b M' h8 H.size
  refine x_callVw K hA X kx hl.1 0 q1768 q1769 q1770 q97 q1771 hv_X8_longest ⟨⟨(Nat.le_of_ble_eq_true rfl), (Nat.le_of_ble_eq_true rfl)⟩, rfl, rfl⟩ pl_modo rfl rfl rfl rfl (Nat.le_of_ble_eq_true rfl) dL_law_927 ⟨(by show cells + 0 ≤ 601024; omega), (by show slots + 0 ≤ 7293034; omega)⟩ rfl (fun H locs X => ?_)
  have X := X.perm wL_swap.symm
  refine lv_icmp_eq (tgt := 2302) hx hb dL_law_930 (by decide) (fun _ => ?_) (fun c1 => absurd hv c1)
  exact w_widen (Nat.le_add_right cells 1) (Nat.le_add_right slots 6) (kk P G M' O H locs ls hI X (lv_sub hl [0, 1, 2, 3, 4] rfl))
-- case 14
def OK_worst (Inv : RowsS → GlbS → RowS → Prop) (P : RowsS) (G : GlbS) (M : RowS) : Prop :=
  (∃ (n : Nat) (res : Int32) (n2 : Nat) (b : Int32) (M' : RowS), f_X7_worst n P G = some res ∧ f_X8_worst n2 M = some (b, M') ∧ res = b ∧ Inv P G M')
set_option maxRecDepth 100000 in
set_option maxHeartbeats 4000000 in
theorem k_worst {p : Program} {l : Launch} {e : Env} {s : State} {m : MethodId} {args : Array Value} {below : List Frame} {meth : Method} {c : Code} {Q : State → Prop} {D : va_G} {A : Nat → Prop} {ar : Nat → Nat → Nat} {ag : Nat → Nat} {ca : Nat → ClassId} {am : Nat → Nat} {ao b0 L : Nat} {xs : Nat → Int32} {I : Int32} {Inv : RowsS → GlbS → RowS → Prop} {cells slots : Nat} {z : ZG} (K : MC D ca p s m args meth c cL_law 9 RL) (hl0 : l.stackTraces = false) (hA : ∀ q, s.heap.size ≤ q → A q) (hZ : ZF z A s s.heap) (hS : va_X b0 L xs s s.heap ∧ b0 < s.heap.size ∧ ¬ A b0) (hroom : cells + 1 ≤ 601024 ∧ slots + 6 ≤ 7293034) {P : RowsS} {G : GlbS} {M : RowS} {O : Nat → Int64} {H : Heap} {locs : List Loc} {ls : Array Slot} (hok : OK_worst Inv P G M) (X : RX D A (wL ar ag ca am P G M ao O) s.heap H locs) (hl : lv_has ls 9 [(0, .ref b0), (1, .ref (ag 0)), (2, .ref (am 0)), (3, .ref ao), (4, .int I)]) (kk : LwAt p l e s m args below meth c Q D A ar ag ca am ao b0 I Inv (cells + 1) (slots + 6) 2302) : W p l e room_1 s m args below meth c H locs cells slots Q (F0 m 935 ls []) := by
  have hx := K.1
  have hb := K.2.1
  obtain ⟨n, res, n2, b, M', h7, h8, hv, hI⟩ := hok
  refine lv_aload_n hx hb dL_law_935 rfl (lv_at hl 1 rfl) ?_
  have kx := m_X7_worst l D ca ar ag n P G (wM am ca M ++ [(ao, oc ca O)]) res h7 H.size
  refine x_callVw K hA X kx hl.1 0 q428 q429 q430 q87 q431 hv_X7_worst ⟨⟨(Nat.le_of_ble_eq_true rfl), (Nat.le_of_ble_eq_true rfl)⟩, rfl, rfl⟩ (pl_glb (k := 0) (by decide)) rfl rfl rfl rfl (Nat.le_of_ble_eq_true rfl) dL_law_936 ⟨(by show cells + 0 ≤ 601024; omega), (by show slots + 0 ≤ 7293034; omega)⟩ rfl (fun H locs X => ?_)
  refine lv_aload_n hx hb dL_law_939 rfl (lv_at hl 2 rfl) ?_
  have X := X.perm wL_swap
  have kx := m_X8_worst l D ca am n2 M (wC ar ag ca P G ++ [(ao, oc ca O)]) b M' h8 H.size
  refine x_callVw K hA X kx hl.1 0 q1772 q1773 q1774 q97 q1775 hv_X8_worst ⟨⟨(Nat.le_of_ble_eq_true rfl), (Nat.le_of_ble_eq_true rfl)⟩, rfl, rfl⟩ pl_modo rfl rfl rfl rfl (Nat.le_of_ble_eq_true rfl) dL_law_940 ⟨(by show cells + 0 ≤ 601024; omega), (by show slots + 0 ≤ 7293034; omega)⟩ rfl (fun H locs X => ?_)
  have X := X.perm wL_swap.symm
  refine lv_icmp_eq (tgt := 2302) hx hb dL_law_943 (by decide) (fun _ => ?_) (fun c1 => absurd hv c1)
  exact w_widen (Nat.le_add_right cells 1) (Nat.le_add_right slots 6) (kk P G M' O H locs ls hI X (lv_sub hl [0, 1, 2, 3, 4] rfl))
-- case 15
def OK_agree (Inv : RowsS → GlbS → RowS → Prop) (P : RowsS) (G : GlbS) (M : RowS) (a1 : Int32) (a2 : Int32) : Prop :=
  (∃ (n : Nat) (res : Bool) (n2 : Nat) (b : Bool) (M' : RowS), f_X7_agree n P G a1 a2 = some res ∧ f_X8_agree n2 M a1 a2 = some (b, M') ∧ f_X8_thrown M' = 0 ∧ res = b ∧ Inv P G M') ∨
  (∃ (n2 : Nat) (b : Bool) (M' : RowS), t_X7_agree P G a1 a2 = some 1 ∧ f_X8_agree n2 M a1 a2 = some (b, M') ∧ f_X8_thrown M' = 1 ∧ Inv P G M') ∨
  (∃ (n2 : Nat) (b : Bool) (M' : RowS), t_X7_agree P G a1 a2 = some 2 ∧ f_X8_agree n2 M a1 a2 = some (b, M') ∧ f_X8_thrown M' = 2 ∧ Inv P G M')
set_option maxRecDepth 100000 in
set_option maxHeartbeats 4000000 in
theorem k_agree {p : Program} {l : Launch} {e : Env} {s : State} {m : MethodId} {args : Array Value} {below : List Frame} {meth : Method} {c : Code} {Q : State → Prop} {D : va_G} {A : Nat → Prop} {ar : Nat → Nat → Nat} {ag : Nat → Nat} {ca : Nat → ClassId} {am : Nat → Nat} {ao b0 L : Nat} {xs : Nat → Int32} {I : Int32} {Inv : RowsS → GlbS → RowS → Prop} {cells slots : Nat} {z : ZG} (K : MC D ca p s m args meth c cL_law 9 RL) (hl0 : l.stackTraces = false) (hA : ∀ q, s.heap.size ≤ q → A q) (hZ : ZF z A s s.heap) (hS : va_X b0 L xs s s.heap ∧ b0 < s.heap.size ∧ ¬ A b0) (hroom : cells + 1 ≤ 601024 ∧ slots + 6 ≤ 7293034) {a1 : Int32} {a2 : Int32} (h1 : vp_in (I + 1) L ∧ xs (I + 1).toNatClampNeg = a1) (h2 : vp_in (I + 2) L ∧ xs (I + 2).toNatClampNeg = a2) {P : RowsS} {G : GlbS} {M : RowS} {O : Nat → Int64} {H : Heap} {locs : List Loc} {ls : Array Slot} (hok : OK_agree Inv P G M a1 a2) (X : RX D A (wL ar ag ca am P G M ao O) s.heap H locs) (hl : lv_has ls 9 [(0, .ref b0), (1, .ref (ag 0)), (2, .ref (am 0)), (3, .ref ao), (4, .int I)]) (kk : LwAt p l e s m args below meth c Q D A ar ag ca am ao b0 I Inv (cells + 1) (slots + 6) 2302) : W p l e room_1 s m args below meth c H locs cells slots Q (F0 m 948 ls []) := by
  have hx := K.1
  have hb := K.2.1
  unfold OK_agree at hok
  rcases hok with hok | hok | hok
  · skip
    obtain ⟨n, res, n2, b, M', h7, h8, hT, hv, hI⟩ := hok
    subst hv
    cases res
    · skip
      refine lv_aload_n hx hb dL_law_948 rfl (lv_at hl 1 rfl) ?_
      refine lv_aload_n hx hb dL_law_949 rfl (lv_at hl 0 rfl) ?_
      refine lv_iload hx hb dL_law_950 (lv_at hl 4 rfl) ?_
      refine lv_iconst (v := 1) hx hb dL_law_952 (by decide) ?_
      refine lv_iadd hx hb dL_law_953 ?_
      refine x_sld K X hS h1 dL_law_954 ?_
      refine lv_aload_n hx hb dL_law_955 rfl (lv_at hl 0 rfl) ?_
      refine lv_iload hx hb dL_law_956 (lv_at hl 4 rfl) ?_
      refine lv_iconst (v := 2) hx hb dL_law_958 (by decide) ?_
      refine lv_iadd hx hb dL_law_959 ?_
      refine x_sld K X hS h2 dL_law_960 ?_
      refine lv_aload_n hx hb dL_law_961 rfl (lv_at hl 3 rfl) ?_
      have kx := n_L_agree l D ca ar ag z n P G (wM am ca M) ao O a1 a2 false h7 H.size
      refine x_callSW K hA hZ X kx hl.1 4 q928 q929 q86 q930 hs_L_agree ⟨⟨(Nat.le_of_ble_eq_true rfl), (Nat.le_of_ble_eq_true rfl)⟩, rfl, rfl⟩ rfl rfl (Nat.le_of_ble_eq_true rfl) dL_law_962 ⟨hroom.1, hroom.2⟩ rfl (fun H locs X => ?_)
      refine lv_istore (lv' := [(5, .int 0), (0, .ref b0), (1, .ref (ag 0)), (2, .ref (am 0)), (3, .ref ao), (4, .int I)]) hx hb dL_law_965 hl (by decide) rfl (fun ls hl => ?_)
      refine lv_aload_n hx hb dL_law_967 rfl (lv_at hl 3 rfl) ?_
      refine lv_aload_n hx hb dL_law_968 rfl (lv_at hl 1 rfl) ?_
      refine lv_iload hx hb dL_law_969 (lv_at hl 5 rfl) ?_
      refine lv_iconst (v := 1) hx hb dL_law_971 (by decide) ?_
      refine lv_iadd hx hb dL_law_972 ?_
      refine x_sld K X hS h1 dL_law_973 ?_
      refine lv_aload_n hx hb dL_law_974 rfl (lv_at hl 1 rfl) ?_
      refine lv_iload hx hb dL_law_975 (lv_at hl 5 rfl) ?_
      refine lv_iconst (v := 2) hx hb dL_law_977 (by decide) ?_
      refine lv_iadd hx hb dL_law_978 ?_
      refine x_sld K X hS h2 dL_law_979 ?_
      have X := X.perm wL_swap
      have kx := m_X8_agree l D ca am n2 M (wC ar ag ca P G ++ [(ao, oc ca (va_up O 0 (if false = true then (1 : Int64) else 0)))]) a1 a2 false M' h8 H.size
      refine x_callVw K hA X kx hl.1 2 q1779 q1780 q1781 q97 q1782 hv_X8_agree ⟨⟨(Nat.le_of_ble_eq_true rfl), (Nat.le_of_ble_eq_true rfl)⟩, rfl, rfl⟩ pl_modo rfl rfl rfl rfl (Nat.le_of_ble_eq_true rfl) dL_law_980 ⟨(by show cells + 1 + 0 ≤ 601024; omega), (by show slots + 6 + 0 ≤ 7293034; omega)⟩ rfl (fun H locs X => ?_)
      have X := X.perm wL_swap.symm
      refine lv_istore (lv' := [(6, .int (b2i false)), (5, .int 0), (0, .ref b0), (1, .ref (ag 0)), (2, .ref (am 0)), (3, .ref ao), (4, .int I)]) hx hb dL_law_983 hl (by decide) rfl (fun ls hl => ?_)
      refine lv_aload_n hx hb dL_law_985 rfl (lv_at hl 4 rfl) ?_
      have X := X.perm wL_swap
      have kx := m_X8_thrown l D ca am M' (wC ar ag ca P G ++ [(ao, oc ca (va_up O 0 (if false = true then (1 : Int64) else 0)))]) 0 hT H.size
      refine x_callVw K hA X kx hl.1 0 q1380 q1381 q1382 q97 q1383 hv_X8_thrown ⟨⟨(Nat.le_of_ble_eq_true rfl), (Nat.le_of_ble_eq_true rfl)⟩, rfl, rfl⟩ pl_modo rfl rfl rfl rfl (Nat.le_of_ble_eq_true rfl) dL_law_986 ⟨(by show cells + 1 + 0 ≤ 601024; omega), (by show slots + 6 + 0 ≤ 7293034; omega)⟩ rfl (fun H locs X => ?_)
      have X := X.perm wL_swap.symm
      refine lv_iload hx hb dL_law_989 (lv_at hl 1 rfl) ?_
      refine lv_icmp_eq (tgt := 996) hx hb dL_law_991 (by decide) (fun _ => ?_) (fun c1 => absurd rfl c1)
      refine lv_iload hx hb dL_law_996 (lv_at hl 1 rfl) ?_
      refine lv_if_ne (tgt := 1020) hx hb dL_law_998 (by decide) (fun c1 => absurd rfl c1) (fun _ => ?_)
      refine lv_aload_n hx hb dL_law_1001 rfl (lv_at hl 5 rfl) ?_
      refine lv_iconst (v := 0) hx hb dL_law_1002 (by decide) ?_
      refine x_lald K X (241 + (wM am ca M').length) ctor_atw (vp_in_iff.mpr (by decide)) dL_law_1003 ?_
      refine lv_iload hx hb dL_law_1004 (lv_at hl 0 rfl) ?_
      refine w_zeq (tgt := 1013) (b := false) K dL_law_1006 (by decide) (fun _ => ?_) (fun c1 => by cases c1)
      refine lv_lconst (v := 0) hx hb dL_law_1013 (by decide) ?_
      refine w_beq (tgt := 1020) K dL_law_1014 dL_law_1015 (by decide) (fun _ => ?_) (fun c1 => absurd (by rw [show (0 : Int32).toNatClampNeg = 0 from rfl, va_up_self]; exact rfl) c1)
      refine lv_goto (tgt := 2302) hx hb dL_law_1020 (by decide) ?_
      exact kk P G M' (va_up O 0 (if false = true then (1 : Int64) else 0)) H locs ls hI X (lv_sub hl [2, 3, 4, 5, 6] rfl)
    · skip
      refine lv_aload_n hx hb dL_law_948 rfl (lv_at hl 1 rfl) ?_
      refine lv_aload_n hx hb dL_law_949 rfl (lv_at hl 0 rfl) ?_
      refine lv_iload hx hb dL_law_950 (lv_at hl 4 rfl) ?_
      refine lv_iconst (v := 1) hx hb dL_law_952 (by decide) ?_
      refine lv_iadd hx hb dL_law_953 ?_
      refine x_sld K X hS h1 dL_law_954 ?_
      refine lv_aload_n hx hb dL_law_955 rfl (lv_at hl 0 rfl) ?_
      refine lv_iload hx hb dL_law_956 (lv_at hl 4 rfl) ?_
      refine lv_iconst (v := 2) hx hb dL_law_958 (by decide) ?_
      refine lv_iadd hx hb dL_law_959 ?_
      refine x_sld K X hS h2 dL_law_960 ?_
      refine lv_aload_n hx hb dL_law_961 rfl (lv_at hl 3 rfl) ?_
      have kx := n_L_agree l D ca ar ag z n P G (wM am ca M) ao O a1 a2 true h7 H.size
      refine x_callSW K hA hZ X kx hl.1 4 q928 q929 q86 q930 hs_L_agree ⟨⟨(Nat.le_of_ble_eq_true rfl), (Nat.le_of_ble_eq_true rfl)⟩, rfl, rfl⟩ rfl rfl (Nat.le_of_ble_eq_true rfl) dL_law_962 ⟨hroom.1, hroom.2⟩ rfl (fun H locs X => ?_)
      refine lv_istore (lv' := [(5, .int 0), (0, .ref b0), (1, .ref (ag 0)), (2, .ref (am 0)), (3, .ref ao), (4, .int I)]) hx hb dL_law_965 hl (by decide) rfl (fun ls hl => ?_)
      refine lv_aload_n hx hb dL_law_967 rfl (lv_at hl 3 rfl) ?_
      refine lv_aload_n hx hb dL_law_968 rfl (lv_at hl 1 rfl) ?_
      refine lv_iload hx hb dL_law_969 (lv_at hl 5 rfl) ?_
      refine lv_iconst (v := 1) hx hb dL_law_971 (by decide) ?_
      refine lv_iadd hx hb dL_law_972 ?_
      refine x_sld K X hS h1 dL_law_973 ?_
      refine lv_aload_n hx hb dL_law_974 rfl (lv_at hl 1 rfl) ?_
      refine lv_iload hx hb dL_law_975 (lv_at hl 5 rfl) ?_
      refine lv_iconst (v := 2) hx hb dL_law_977 (by decide) ?_
      refine lv_iadd hx hb dL_law_978 ?_
      refine x_sld K X hS h2 dL_law_979 ?_
      have X := X.perm wL_swap
      have kx := m_X8_agree l D ca am n2 M (wC ar ag ca P G ++ [(ao, oc ca (va_up O 0 (if true = true then (1 : Int64) else 0)))]) a1 a2 true M' h8 H.size
      refine x_callVw K hA X kx hl.1 2 q1779 q1780 q1781 q97 q1782 hv_X8_agree ⟨⟨(Nat.le_of_ble_eq_true rfl), (Nat.le_of_ble_eq_true rfl)⟩, rfl, rfl⟩ pl_modo rfl rfl rfl rfl (Nat.le_of_ble_eq_true rfl) dL_law_980 ⟨(by show cells + 1 + 0 ≤ 601024; omega), (by show slots + 6 + 0 ≤ 7293034; omega)⟩ rfl (fun H locs X => ?_)
      have X := X.perm wL_swap.symm
      refine lv_istore (lv' := [(6, .int (b2i true)), (5, .int 0), (0, .ref b0), (1, .ref (ag 0)), (2, .ref (am 0)), (3, .ref ao), (4, .int I)]) hx hb dL_law_983 hl (by decide) rfl (fun ls hl => ?_)
      refine lv_aload_n hx hb dL_law_985 rfl (lv_at hl 4 rfl) ?_
      have X := X.perm wL_swap
      have kx := m_X8_thrown l D ca am M' (wC ar ag ca P G ++ [(ao, oc ca (va_up O 0 (if true = true then (1 : Int64) else 0)))]) 0 hT H.size
      refine x_callVw K hA X kx hl.1 0 q1380 q1381 q1382 q97 q1383 hv_X8_thrown ⟨⟨(Nat.le_of_ble_eq_true rfl), (Nat.le_of_ble_eq_true rfl)⟩, rfl, rfl⟩ pl_modo rfl rfl rfl rfl (Nat.le_of_ble_eq_true rfl) dL_law_986 ⟨(by show cells + 1 + 0 ≤ 601024; omega), (by show slots + 6 + 0 ≤ 7293034; omega)⟩ rfl (fun H locs X => ?_)
      have X := X.perm wL_swap.symm
      refine lv_iload hx hb dL_law_989 (lv_at hl 1 rfl) ?_
      refine lv_icmp_eq (tgt := 996) hx hb dL_law_991 (by decide) (fun _ => ?_) (fun c1 => absurd rfl c1)
      refine lv_iload hx hb dL_law_996 (lv_at hl 1 rfl) ?_
      refine lv_if_ne (tgt := 1020) hx hb dL_law_998 (by decide) (fun c1 => absurd rfl c1) (fun _ => ?_)
      refine lv_aload_n hx hb dL_law_1001 rfl (lv_at hl 5 rfl) ?_
      refine lv_iconst (v := 0) hx hb dL_law_1002 (by decide) ?_
      refine x_lald K X (241 + (wM am ca M').length) ctor_atw (vp_in_iff.mpr (by decide)) dL_law_1003 ?_
      refine lv_iload hx hb dL_law_1004 (lv_at hl 0 rfl) ?_
      refine w_zeq (tgt := 1013) (b := true) K dL_law_1006 (by decide) (fun c1 => absurd rfl c1) (fun _ => ?_)
      refine lv_lconst (v := 1) hx hb dL_law_1009 (by decide) ?_
      refine lv_goto (tgt := 1014) hx hb dL_law_1010 (by decide) ?_
      refine w_beq (tgt := 1020) K dL_law_1014 dL_law_1015 (by decide) (fun _ => ?_) (fun c1 => absurd (by rw [show (0 : Int32).toNatClampNeg = 0 from rfl, va_up_self]; exact rfl) c1)
      refine lv_goto (tgt := 2302) hx hb dL_law_1020 (by decide) ?_
      exact kk P G M' (va_up O 0 (if true = true then (1 : Int64) else 0)) H locs ls hI X (lv_sub hl [2, 3, 4, 5, 6] rfl)
  · skip
    obtain ⟨n2, b, M', ht, h8, hT, hI⟩ := hok
    refine lv_aload_n hx hb dL_law_948 rfl (lv_at hl 1 rfl) ?_
    refine lv_aload_n hx hb dL_law_949 rfl (lv_at hl 0 rfl) ?_
    refine lv_iload hx hb dL_law_950 (lv_at hl 4 rfl) ?_
    refine lv_iconst (v := 1) hx hb dL_law_952 (by decide) ?_
    refine lv_iadd hx hb dL_law_953 ?_
    refine x_sld K X hS h1 dL_law_954 ?_
    refine lv_aload_n hx hb dL_law_955 rfl (lv_at hl 0 rfl) ?_
    refine lv_iload hx hb dL_law_956 (lv_at hl 4 rfl) ?_
    refine lv_iconst (v := 2) hx hb dL_law_958 (by decide) ?_
    refine lv_iadd hx hb dL_law_959 ?_
    refine x_sld K X hS h2 dL_law_960 ?_
    refine lv_aload_n hx hb dL_law_961 rfl (lv_at hl 3 rfl) ?_
    have kx := e1_L_agree l D ca ar ag z hl0 P G (wM am ca M) ao O a1 a2 ht H.size
    refine x_callSW K hA hZ X kx hl.1 4 q928 q929 q86 q930 hs_L_agree ⟨⟨(Nat.le_of_ble_eq_true rfl), (Nat.le_of_ble_eq_true rfl)⟩, rfl, rfl⟩ rfl rfl (Nat.le_of_ble_eq_true rfl) dL_law_962 ⟨hroom.1, hroom.2⟩ rfl (fun H locs X => ?_)
    refine lv_istore (lv' := [(5, .int 1), (0, .ref b0), (1, .ref (ag 0)), (2, .ref (am 0)), (3, .ref ao), (4, .int I)]) hx hb dL_law_965 hl (by decide) rfl (fun ls hl => ?_)
    refine lv_aload_n hx hb dL_law_967 rfl (lv_at hl 3 rfl) ?_
    refine lv_aload_n hx hb dL_law_968 rfl (lv_at hl 1 rfl) ?_
    refine lv_iload hx hb dL_law_969 (lv_at hl 5 rfl) ?_
    refine lv_iconst (v := 1) hx hb dL_law_971 (by decide) ?_
    refine lv_iadd hx hb dL_law_972 ?_
    refine x_sld K X hS h1 dL_law_973 ?_
    refine lv_aload_n hx hb dL_law_974 rfl (lv_at hl 1 rfl) ?_
    refine lv_iload hx hb dL_law_975 (lv_at hl 5 rfl) ?_
    refine lv_iconst (v := 2) hx hb dL_law_977 (by decide) ?_
    refine lv_iadd hx hb dL_law_978 ?_
    refine x_sld K X hS h2 dL_law_979 ?_
    have X := X.perm wL_swap
    have kx := m_X8_agree l D ca am n2 M (wC ar ag ca P G ++ [(ao, oc ca O)]) a1 a2 b M' h8 H.size
    refine x_callVw K hA X kx hl.1 2 q1779 q1780 q1781 q97 q1782 hv_X8_agree ⟨⟨(Nat.le_of_ble_eq_true rfl), (Nat.le_of_ble_eq_true rfl)⟩, rfl, rfl⟩ pl_modo rfl rfl rfl rfl (Nat.le_of_ble_eq_true rfl) dL_law_980 ⟨(by show cells + 1 + 0 ≤ 601024; omega), (by show slots + 6 + 0 ≤ 7293034; omega)⟩ rfl (fun H locs X => ?_)
    have X := X.perm wL_swap.symm
    refine lv_istore (lv' := [(6, .int (b2i b)), (5, .int 1), (0, .ref b0), (1, .ref (ag 0)), (2, .ref (am 0)), (3, .ref ao), (4, .int I)]) hx hb dL_law_983 hl (by decide) rfl (fun ls hl => ?_)
    refine lv_aload_n hx hb dL_law_985 rfl (lv_at hl 4 rfl) ?_
    have X := X.perm wL_swap
    have kx := m_X8_thrown l D ca am M' (wC ar ag ca P G ++ [(ao, oc ca O)]) 1 hT H.size
    refine x_callVw K hA X kx hl.1 0 q1380 q1381 q1382 q97 q1383 hv_X8_thrown ⟨⟨(Nat.le_of_ble_eq_true rfl), (Nat.le_of_ble_eq_true rfl)⟩, rfl, rfl⟩ pl_modo rfl rfl rfl rfl (Nat.le_of_ble_eq_true rfl) dL_law_986 ⟨(by show cells + 1 + 0 ≤ 601024; omega), (by show slots + 6 + 0 ≤ 7293034; omega)⟩ rfl (fun H locs X => ?_)
    have X := X.perm wL_swap.symm
    refine lv_iload hx hb dL_law_989 (lv_at hl 1 rfl) ?_
    refine lv_icmp_eq (tgt := 996) hx hb dL_law_991 (by decide) (fun _ => ?_) (fun c1 => absurd rfl c1)
    refine lv_iload hx hb dL_law_996 (lv_at hl 1 rfl) ?_
    refine lv_if_ne (tgt := 1020) hx hb dL_law_998 (by decide) (fun _ => ?_) (fun c1 => absurd c1 (by decide))
    refine lv_goto (tgt := 2302) hx hb dL_law_1020 (by decide) ?_
    exact kk P G M' O H locs ls hI X (lv_sub hl [2, 3, 4, 5, 6] rfl)
  · skip
    obtain ⟨n2, b, M', ht, h8, hT, hI⟩ := hok
    refine lv_aload_n hx hb dL_law_948 rfl (lv_at hl 1 rfl) ?_
    refine lv_aload_n hx hb dL_law_949 rfl (lv_at hl 0 rfl) ?_
    refine lv_iload hx hb dL_law_950 (lv_at hl 4 rfl) ?_
    refine lv_iconst (v := 1) hx hb dL_law_952 (by decide) ?_
    refine lv_iadd hx hb dL_law_953 ?_
    refine x_sld K X hS h1 dL_law_954 ?_
    refine lv_aload_n hx hb dL_law_955 rfl (lv_at hl 0 rfl) ?_
    refine lv_iload hx hb dL_law_956 (lv_at hl 4 rfl) ?_
    refine lv_iconst (v := 2) hx hb dL_law_958 (by decide) ?_
    refine lv_iadd hx hb dL_law_959 ?_
    refine x_sld K X hS h2 dL_law_960 ?_
    refine lv_aload_n hx hb dL_law_961 rfl (lv_at hl 3 rfl) ?_
    have kx := e2_L_agree l D ca ar ag z hl0 P G (wM am ca M) ao O a1 a2 ht H.size
    refine x_callSW K hA hZ X kx hl.1 4 q928 q929 q86 q930 hs_L_agree ⟨⟨(Nat.le_of_ble_eq_true rfl), (Nat.le_of_ble_eq_true rfl)⟩, rfl, rfl⟩ rfl rfl (Nat.le_of_ble_eq_true rfl) dL_law_962 ⟨hroom.1, hroom.2⟩ rfl (fun H locs X => ?_)
    refine lv_istore (lv' := [(5, .int 2), (0, .ref b0), (1, .ref (ag 0)), (2, .ref (am 0)), (3, .ref ao), (4, .int I)]) hx hb dL_law_965 hl (by decide) rfl (fun ls hl => ?_)
    refine lv_aload_n hx hb dL_law_967 rfl (lv_at hl 3 rfl) ?_
    refine lv_aload_n hx hb dL_law_968 rfl (lv_at hl 1 rfl) ?_
    refine lv_iload hx hb dL_law_969 (lv_at hl 5 rfl) ?_
    refine lv_iconst (v := 1) hx hb dL_law_971 (by decide) ?_
    refine lv_iadd hx hb dL_law_972 ?_
    refine x_sld K X hS h1 dL_law_973 ?_
    refine lv_aload_n hx hb dL_law_974 rfl (lv_at hl 1 rfl) ?_
    refine lv_iload hx hb dL_law_975 (lv_at hl 5 rfl) ?_
    refine lv_iconst (v := 2) hx hb dL_law_977 (by decide) ?_
    refine lv_iadd hx hb dL_law_978 ?_
    refine x_sld K X hS h2 dL_law_979 ?_
    have X := X.perm wL_swap
    have kx := m_X8_agree l D ca am n2 M (wC ar ag ca P G ++ [(ao, oc ca O)]) a1 a2 b M' h8 H.size
    refine x_callVw K hA X kx hl.1 2 q1779 q1780 q1781 q97 q1782 hv_X8_agree ⟨⟨(Nat.le_of_ble_eq_true rfl), (Nat.le_of_ble_eq_true rfl)⟩, rfl, rfl⟩ pl_modo rfl rfl rfl rfl (Nat.le_of_ble_eq_true rfl) dL_law_980 ⟨(by show cells + 1 + 0 ≤ 601024; omega), (by show slots + 6 + 0 ≤ 7293034; omega)⟩ rfl (fun H locs X => ?_)
    have X := X.perm wL_swap.symm
    refine lv_istore (lv' := [(6, .int (b2i b)), (5, .int 2), (0, .ref b0), (1, .ref (ag 0)), (2, .ref (am 0)), (3, .ref ao), (4, .int I)]) hx hb dL_law_983 hl (by decide) rfl (fun ls hl => ?_)
    refine lv_aload_n hx hb dL_law_985 rfl (lv_at hl 4 rfl) ?_
    have X := X.perm wL_swap
    have kx := m_X8_thrown l D ca am M' (wC ar ag ca P G ++ [(ao, oc ca O)]) 2 hT H.size
    refine x_callVw K hA X kx hl.1 0 q1380 q1381 q1382 q97 q1383 hv_X8_thrown ⟨⟨(Nat.le_of_ble_eq_true rfl), (Nat.le_of_ble_eq_true rfl)⟩, rfl, rfl⟩ pl_modo rfl rfl rfl rfl (Nat.le_of_ble_eq_true rfl) dL_law_986 ⟨(by show cells + 1 + 0 ≤ 601024; omega), (by show slots + 6 + 0 ≤ 7293034; omega)⟩ rfl (fun H locs X => ?_)
    have X := X.perm wL_swap.symm
    refine lv_iload hx hb dL_law_989 (lv_at hl 1 rfl) ?_
    refine lv_icmp_eq (tgt := 996) hx hb dL_law_991 (by decide) (fun _ => ?_) (fun c1 => absurd rfl c1)
    refine lv_iload hx hb dL_law_996 (lv_at hl 1 rfl) ?_
    refine lv_if_ne (tgt := 1020) hx hb dL_law_998 (by decide) (fun _ => ?_) (fun c1 => absurd c1 (by decide))
    refine lv_goto (tgt := 2302) hx hb dL_law_1020 (by decide) ?_
    exact kk P G M' O H locs ls hI X (lv_sub hl [2, 3, 4, 5, 6] rfl)
-- case 16
def OK_wouldBreak (Inv : RowsS → GlbS → RowS → Prop) (P : RowsS) (G : GlbS) (M : RowS) (a1 : Int32) (a2 : Int32) : Prop :=
  (∃ (n : Nat) (res : Int32) (P' : RowsS) (n2 : Nat) (b : Int32) (M' : RowS), f_X7_wouldBreak n P G a1 a2 = some (res, P') ∧ f_X8_wouldBreak n2 M a1 a2 = some (b, M') ∧ f_X8_thrown M' = 0 ∧ res.toInt64 = b.toInt64 ∧ Inv P' G M') ∨
  (∃ (n2 : Nat) (b : Int32) (M' : RowS), t_X7_wouldBreak P G a1 a2 = some 1 ∧ f_X8_wouldBreak n2 M a1 a2 = some (b, M') ∧ f_X8_thrown M' = 1 ∧ Inv P G M') ∨
  (∃ (n2 : Nat) (b : Int32) (M' : RowS), t_X7_wouldBreak P G a1 a2 = some 2 ∧ f_X8_wouldBreak n2 M a1 a2 = some (b, M') ∧ f_X8_thrown M' = 2 ∧ Inv P G M')
set_option maxRecDepth 100000 in
set_option maxHeartbeats 4000000 in
theorem k_wouldBreak {p : Program} {l : Launch} {e : Env} {s : State} {m : MethodId} {args : Array Value} {below : List Frame} {meth : Method} {c : Code} {Q : State → Prop} {D : va_G} {A : Nat → Prop} {ar : Nat → Nat → Nat} {ag : Nat → Nat} {ca : Nat → ClassId} {am : Nat → Nat} {ao b0 L : Nat} {xs : Nat → Int32} {I : Int32} {Inv : RowsS → GlbS → RowS → Prop} {cells slots : Nat} {z : ZG} (K : MC D ca p s m args meth c cL_law 9 RL) (hl0 : l.stackTraces = false) (hA : ∀ q, s.heap.size ≤ q → A q) (hZ : ZF z A s s.heap) (hS : va_X b0 L xs s s.heap ∧ b0 < s.heap.size ∧ ¬ A b0) (hroom : cells + 1 ≤ 601024 ∧ slots + 6 ≤ 7293034) {a1 : Int32} {a2 : Int32} (h1 : vp_in (I + 1) L ∧ xs (I + 1).toNatClampNeg = a1) (h2 : vp_in (I + 2) L ∧ xs (I + 2).toNatClampNeg = a2) {P : RowsS} {G : GlbS} {M : RowS} {O : Nat → Int64} {H : Heap} {locs : List Loc} {ls : Array Slot} (hok : OK_wouldBreak Inv P G M a1 a2) (X : RX D A (wL ar ag ca am P G M ao O) s.heap H locs) (hl : lv_has ls 9 [(0, .ref b0), (1, .ref (ag 0)), (2, .ref (am 0)), (3, .ref ao), (4, .int I)]) (kk : LwAt p l e s m args below meth c Q D A ar ag ca am ao b0 I Inv (cells + 1) (slots + 6) 2302) : W p l e room_1 s m args below meth c H locs cells slots Q (F0 m 1023 ls []) := by
  have hx := K.1
  have hb := K.2.1
  unfold OK_wouldBreak at hok
  rcases hok with hok | hok | hok
  · skip
    obtain ⟨n, res, P', n2, b, M', h7, h8, hT, hv, hI⟩ := hok
    refine lv_aload_n hx hb dL_law_1023 rfl (lv_at hl 1 rfl) ?_
    refine lv_aload_n hx hb dL_law_1024 rfl (lv_at hl 0 rfl) ?_
    refine lv_iload hx hb dL_law_1025 (lv_at hl 4 rfl) ?_
    refine lv_iconst (v := 1) hx hb dL_law_1027 (by decide) ?_
    refine lv_iadd hx hb dL_law_1028 ?_
    refine x_sld K X hS h1 dL_law_1029 ?_
    refine lv_aload_n hx hb dL_law_1030 rfl (lv_at hl 0 rfl) ?_
    refine lv_iload hx hb dL_law_1031 (lv_at hl 4 rfl) ?_
    refine lv_iconst (v := 2) hx hb dL_law_1033 (by decide) ?_
    refine lv_iadd hx hb dL_law_1034 ?_
    refine x_sld K X hS h2 dL_law_1035 ?_
    refine lv_aload_n hx hb dL_law_1036 rfl (lv_at hl 3 rfl) ?_
    have kx := n_L_wouldBreak l D ca ar ag z n P G (wM am ca M) ao O a1 a2 res P' h7 H.size
    refine x_callSW K hA hZ X kx hl.1 4 q940 q941 q86 q942 hs_L_wouldBreak ⟨⟨(Nat.le_of_ble_eq_true rfl), (Nat.le_of_ble_eq_true rfl)⟩, rfl, rfl⟩ rfl rfl (Nat.le_of_ble_eq_true rfl) dL_law_1037 ⟨hroom.1, hroom.2⟩ rfl (fun H locs X => ?_)
    refine lv_istore (lv' := [(5, .int 0), (0, .ref b0), (1, .ref (ag 0)), (2, .ref (am 0)), (3, .ref ao), (4, .int I)]) hx hb dL_law_1040 hl (by decide) rfl (fun ls hl => ?_)
    refine lv_aload_n hx hb dL_law_1042 rfl (lv_at hl 3 rfl) ?_
    refine lv_aload_n hx hb dL_law_1043 rfl (lv_at hl 1 rfl) ?_
    refine lv_iload hx hb dL_law_1044 (lv_at hl 5 rfl) ?_
    refine lv_iconst (v := 1) hx hb dL_law_1046 (by decide) ?_
    refine lv_iadd hx hb dL_law_1047 ?_
    refine x_sld K X hS h1 dL_law_1048 ?_
    refine lv_aload_n hx hb dL_law_1049 rfl (lv_at hl 1 rfl) ?_
    refine lv_iload hx hb dL_law_1050 (lv_at hl 5 rfl) ?_
    refine lv_iconst (v := 2) hx hb dL_law_1052 (by decide) ?_
    refine lv_iadd hx hb dL_law_1053 ?_
    refine x_sld K X hS h2 dL_law_1054 ?_
    have X := X.perm wL_swap
    have kx := m_X8_wouldBreak l D ca am n2 M (wC ar ag ca P' G ++ [(ao, oc ca (va_up O 0 res.toInt64))]) a1 a2 b M' h8 H.size
    refine x_callVw K hA X kx hl.1 2 q1787 q1788 q1789 q97 q1790 hv_X8_wouldBreak ⟨⟨(Nat.le_of_ble_eq_true rfl), (Nat.le_of_ble_eq_true rfl)⟩, rfl, rfl⟩ pl_modo rfl rfl rfl rfl (Nat.le_of_ble_eq_true rfl) dL_law_1055 ⟨(by show cells + 1 + 0 ≤ 601024; omega), (by show slots + 6 + 0 ≤ 7293034; omega)⟩ rfl (fun H locs X => ?_)
    have X := X.perm wL_swap.symm
    refine lv_istore (lv' := [(6, .int b), (5, .int 0), (0, .ref b0), (1, .ref (ag 0)), (2, .ref (am 0)), (3, .ref ao), (4, .int I)]) hx hb dL_law_1058 hl (by decide) rfl (fun ls hl => ?_)
    refine lv_aload_n hx hb dL_law_1060 rfl (lv_at hl 4 rfl) ?_
    have X := X.perm wL_swap
    have kx := m_X8_thrown l D ca am M' (wC ar ag ca P' G ++ [(ao, oc ca (va_up O 0 res.toInt64))]) 0 hT H.size
    refine x_callVw K hA X kx hl.1 0 q1380 q1381 q1382 q97 q1383 hv_X8_thrown ⟨⟨(Nat.le_of_ble_eq_true rfl), (Nat.le_of_ble_eq_true rfl)⟩, rfl, rfl⟩ pl_modo rfl rfl rfl rfl (Nat.le_of_ble_eq_true rfl) dL_law_1061 ⟨(by show cells + 1 + 0 ≤ 601024; omega), (by show slots + 6 + 0 ≤ 7293034; omega)⟩ rfl (fun H locs X => ?_)
    have X := X.perm wL_swap.symm
    refine lv_iload hx hb dL_law_1064 (lv_at hl 1 rfl) ?_
    refine lv_icmp_eq (tgt := 1071) hx hb dL_law_1066 (by decide) (fun _ => ?_) (fun c1 => absurd rfl c1)
    refine lv_iload hx hb dL_law_1071 (lv_at hl 1 rfl) ?_
    refine lv_if_ne (tgt := 1088) hx hb dL_law_1073 (by decide) (fun c1 => absurd rfl c1) (fun _ => ?_)
    refine lv_aload_n hx hb dL_law_1076 rfl (lv_at hl 5 rfl) ?_
    refine lv_iconst (v := 0) hx hb dL_law_1077 (by decide) ?_
    refine x_lald K X (241 + (wM am ca M').length) ctor_atw (vp_in_iff.mpr (by decide)) dL_law_1078 ?_
    refine lv_iload hx hb dL_law_1079 (lv_at hl 0 rfl) ?_
    refine lv_i2l hx hb dL_law_1081 rfl ?_
    refine w_beq (tgt := 1088) K dL_law_1082 dL_law_1083 (by decide) (fun _ => ?_) (fun c1 => absurd (by rw [show (0 : Int32).toNatClampNeg = 0 from rfl, va_up_self]; exact hv) c1)
    refine lv_goto (tgt := 2302) hx hb dL_law_1088 (by decide) ?_
    exact kk P' G M' (va_up O 0 res.toInt64) H locs ls hI X (lv_sub hl [2, 3, 4, 5, 6] rfl)
  · skip
    obtain ⟨n2, b, M', ht, h8, hT, hI⟩ := hok
    refine lv_aload_n hx hb dL_law_1023 rfl (lv_at hl 1 rfl) ?_
    refine lv_aload_n hx hb dL_law_1024 rfl (lv_at hl 0 rfl) ?_
    refine lv_iload hx hb dL_law_1025 (lv_at hl 4 rfl) ?_
    refine lv_iconst (v := 1) hx hb dL_law_1027 (by decide) ?_
    refine lv_iadd hx hb dL_law_1028 ?_
    refine x_sld K X hS h1 dL_law_1029 ?_
    refine lv_aload_n hx hb dL_law_1030 rfl (lv_at hl 0 rfl) ?_
    refine lv_iload hx hb dL_law_1031 (lv_at hl 4 rfl) ?_
    refine lv_iconst (v := 2) hx hb dL_law_1033 (by decide) ?_
    refine lv_iadd hx hb dL_law_1034 ?_
    refine x_sld K X hS h2 dL_law_1035 ?_
    refine lv_aload_n hx hb dL_law_1036 rfl (lv_at hl 3 rfl) ?_
    have kx := e1_L_wouldBreak l D ca ar ag z hl0 P G (wM am ca M) ao O a1 a2 ht H.size
    refine x_callSW K hA hZ X kx hl.1 4 q940 q941 q86 q942 hs_L_wouldBreak ⟨⟨(Nat.le_of_ble_eq_true rfl), (Nat.le_of_ble_eq_true rfl)⟩, rfl, rfl⟩ rfl rfl (Nat.le_of_ble_eq_true rfl) dL_law_1037 ⟨hroom.1, hroom.2⟩ rfl (fun H locs X => ?_)
    refine lv_istore (lv' := [(5, .int 1), (0, .ref b0), (1, .ref (ag 0)), (2, .ref (am 0)), (3, .ref ao), (4, .int I)]) hx hb dL_law_1040 hl (by decide) rfl (fun ls hl => ?_)
    refine lv_aload_n hx hb dL_law_1042 rfl (lv_at hl 3 rfl) ?_
    refine lv_aload_n hx hb dL_law_1043 rfl (lv_at hl 1 rfl) ?_
    refine lv_iload hx hb dL_law_1044 (lv_at hl 5 rfl) ?_
    refine lv_iconst (v := 1) hx hb dL_law_1046 (by decide) ?_
    refine lv_iadd hx hb dL_law_1047 ?_
    refine x_sld K X hS h1 dL_law_1048 ?_
    refine lv_aload_n hx hb dL_law_1049 rfl (lv_at hl 1 rfl) ?_
    refine lv_iload hx hb dL_law_1050 (lv_at hl 5 rfl) ?_
    refine lv_iconst (v := 2) hx hb dL_law_1052 (by decide) ?_
    refine lv_iadd hx hb dL_law_1053 ?_
    refine x_sld K X hS h2 dL_law_1054 ?_
    have X := X.perm wL_swap
    have kx := m_X8_wouldBreak l D ca am n2 M (wC ar ag ca P G ++ [(ao, oc ca O)]) a1 a2 b M' h8 H.size
    refine x_callVw K hA X kx hl.1 2 q1787 q1788 q1789 q97 q1790 hv_X8_wouldBreak ⟨⟨(Nat.le_of_ble_eq_true rfl), (Nat.le_of_ble_eq_true rfl)⟩, rfl, rfl⟩ pl_modo rfl rfl rfl rfl (Nat.le_of_ble_eq_true rfl) dL_law_1055 ⟨(by show cells + 1 + 0 ≤ 601024; omega), (by show slots + 6 + 0 ≤ 7293034; omega)⟩ rfl (fun H locs X => ?_)
    have X := X.perm wL_swap.symm
    refine lv_istore (lv' := [(6, .int b), (5, .int 1), (0, .ref b0), (1, .ref (ag 0)), (2, .ref (am 0)), (3, .ref ao), (4, .int I)]) hx hb dL_law_1058 hl (by decide) rfl (fun ls hl => ?_)
    refine lv_aload_n hx hb dL_law_1060 rfl (lv_at hl 4 rfl) ?_
    have X := X.perm wL_swap
    have kx := m_X8_thrown l D ca am M' (wC ar ag ca P G ++ [(ao, oc ca O)]) 1 hT H.size
    refine x_callVw K hA X kx hl.1 0 q1380 q1381 q1382 q97 q1383 hv_X8_thrown ⟨⟨(Nat.le_of_ble_eq_true rfl), (Nat.le_of_ble_eq_true rfl)⟩, rfl, rfl⟩ pl_modo rfl rfl rfl rfl (Nat.le_of_ble_eq_true rfl) dL_law_1061 ⟨(by show cells + 1 + 0 ≤ 601024; omega), (by show slots + 6 + 0 ≤ 7293034; omega)⟩ rfl (fun H locs X => ?_)
    have X := X.perm wL_swap.symm
    refine lv_iload hx hb dL_law_1064 (lv_at hl 1 rfl) ?_
    refine lv_icmp_eq (tgt := 1071) hx hb dL_law_1066 (by decide) (fun _ => ?_) (fun c1 => absurd rfl c1)
    refine lv_iload hx hb dL_law_1071 (lv_at hl 1 rfl) ?_
    refine lv_if_ne (tgt := 1088) hx hb dL_law_1073 (by decide) (fun _ => ?_) (fun c1 => absurd c1 (by decide))
    refine lv_goto (tgt := 2302) hx hb dL_law_1088 (by decide) ?_
    exact kk P G M' O H locs ls hI X (lv_sub hl [2, 3, 4, 5, 6] rfl)
  · skip
    obtain ⟨n2, b, M', ht, h8, hT, hI⟩ := hok
    refine lv_aload_n hx hb dL_law_1023 rfl (lv_at hl 1 rfl) ?_
    refine lv_aload_n hx hb dL_law_1024 rfl (lv_at hl 0 rfl) ?_
    refine lv_iload hx hb dL_law_1025 (lv_at hl 4 rfl) ?_
    refine lv_iconst (v := 1) hx hb dL_law_1027 (by decide) ?_
    refine lv_iadd hx hb dL_law_1028 ?_
    refine x_sld K X hS h1 dL_law_1029 ?_
    refine lv_aload_n hx hb dL_law_1030 rfl (lv_at hl 0 rfl) ?_
    refine lv_iload hx hb dL_law_1031 (lv_at hl 4 rfl) ?_
    refine lv_iconst (v := 2) hx hb dL_law_1033 (by decide) ?_
    refine lv_iadd hx hb dL_law_1034 ?_
    refine x_sld K X hS h2 dL_law_1035 ?_
    refine lv_aload_n hx hb dL_law_1036 rfl (lv_at hl 3 rfl) ?_
    have kx := e2_L_wouldBreak l D ca ar ag z hl0 P G (wM am ca M) ao O a1 a2 ht H.size
    refine x_callSW K hA hZ X kx hl.1 4 q940 q941 q86 q942 hs_L_wouldBreak ⟨⟨(Nat.le_of_ble_eq_true rfl), (Nat.le_of_ble_eq_true rfl)⟩, rfl, rfl⟩ rfl rfl (Nat.le_of_ble_eq_true rfl) dL_law_1037 ⟨hroom.1, hroom.2⟩ rfl (fun H locs X => ?_)
    refine lv_istore (lv' := [(5, .int 2), (0, .ref b0), (1, .ref (ag 0)), (2, .ref (am 0)), (3, .ref ao), (4, .int I)]) hx hb dL_law_1040 hl (by decide) rfl (fun ls hl => ?_)
    refine lv_aload_n hx hb dL_law_1042 rfl (lv_at hl 3 rfl) ?_
    refine lv_aload_n hx hb dL_law_1043 rfl (lv_at hl 1 rfl) ?_
    refine lv_iload hx hb dL_law_1044 (lv_at hl 5 rfl) ?_
    refine lv_iconst (v := 1) hx hb dL_law_1046 (by decide) ?_
    refine lv_iadd hx hb dL_law_1047 ?_
    refine x_sld K X hS h1 dL_law_1048 ?_
    refine lv_aload_n hx hb dL_law_1049 rfl (lv_at hl 1 rfl) ?_
    refine lv_iload hx hb dL_law_1050 (lv_at hl 5 rfl) ?_
    refine lv_iconst (v := 2) hx hb dL_law_1052 (by decide) ?_
    refine lv_iadd hx hb dL_law_1053 ?_
    refine x_sld K X hS h2 dL_law_1054 ?_
    have X := X.perm wL_swap
    have kx := m_X8_wouldBreak l D ca am n2 M (wC ar ag ca P G ++ [(ao, oc ca O)]) a1 a2 b M' h8 H.size
    refine x_callVw K hA X kx hl.1 2 q1787 q1788 q1789 q97 q1790 hv_X8_wouldBreak ⟨⟨(Nat.le_of_ble_eq_true rfl), (Nat.le_of_ble_eq_true rfl)⟩, rfl, rfl⟩ pl_modo rfl rfl rfl rfl (Nat.le_of_ble_eq_true rfl) dL_law_1055 ⟨(by show cells + 1 + 0 ≤ 601024; omega), (by show slots + 6 + 0 ≤ 7293034; omega)⟩ rfl (fun H locs X => ?_)
    have X := X.perm wL_swap.symm
    refine lv_istore (lv' := [(6, .int b), (5, .int 2), (0, .ref b0), (1, .ref (ag 0)), (2, .ref (am 0)), (3, .ref ao), (4, .int I)]) hx hb dL_law_1058 hl (by decide) rfl (fun ls hl => ?_)
    refine lv_aload_n hx hb dL_law_1060 rfl (lv_at hl 4 rfl) ?_
    have X := X.perm wL_swap
    have kx := m_X8_thrown l D ca am M' (wC ar ag ca P G ++ [(ao, oc ca O)]) 2 hT H.size
    refine x_callVw K hA X kx hl.1 0 q1380 q1381 q1382 q97 q1383 hv_X8_thrown ⟨⟨(Nat.le_of_ble_eq_true rfl), (Nat.le_of_ble_eq_true rfl)⟩, rfl, rfl⟩ pl_modo rfl rfl rfl rfl (Nat.le_of_ble_eq_true rfl) dL_law_1061 ⟨(by show cells + 1 + 0 ≤ 601024; omega), (by show slots + 6 + 0 ≤ 7293034; omega)⟩ rfl (fun H locs X => ?_)
    have X := X.perm wL_swap.symm
    refine lv_iload hx hb dL_law_1064 (lv_at hl 1 rfl) ?_
    refine lv_icmp_eq (tgt := 1071) hx hb dL_law_1066 (by decide) (fun _ => ?_) (fun c1 => absurd rfl c1)
    refine lv_iload hx hb dL_law_1071 (lv_at hl 1 rfl) ?_
    refine lv_if_ne (tgt := 1088) hx hb dL_law_1073 (by decide) (fun _ => ?_) (fun c1 => absurd c1 (by decide))
    refine lv_goto (tgt := 2302) hx hb dL_law_1088 (by decide) ?_
    exact kk P G M' O H locs ls hI X (lv_sub hl [2, 3, 4, 5, 6] rfl)
-- case 17
def OK_readingWith (Inv : RowsS → GlbS → RowS → Prop) (P : RowsS) (G : GlbS) (M : RowS) (a1 : Int32) (a2 : Int32) (a3 : Int32) : Prop :=
  (∃ (n : Nat) (res : Int32) (P' : RowsS) (n2 : Nat) (b : Int32) (M' : RowS), f_X7_readingWith n P G a1 a2 a3 = some (res, P') ∧ f_X8_readingWith n2 M a1 a2 a3 = some (b, M') ∧ f_X8_thrown M' = 0 ∧ res.toInt64 = b.toInt64 ∧ Inv P' G M') ∨
  (∃ (n2 : Nat) (b : Int32) (M' : RowS), t_X7_readingWith P G a1 a2 a3 = some 1 ∧ f_X8_readingWith n2 M a1 a2 a3 = some (b, M') ∧ f_X8_thrown M' = 1 ∧ Inv P G M') ∨
  (∃ (n2 : Nat) (b : Int32) (M' : RowS), t_X7_readingWith P G a1 a2 a3 = some 2 ∧ f_X8_readingWith n2 M a1 a2 a3 = some (b, M') ∧ f_X8_thrown M' = 2 ∧ Inv P G M')
set_option maxRecDepth 100000 in
set_option maxHeartbeats 4000000 in
theorem k_readingWith {p : Program} {l : Launch} {e : Env} {s : State} {m : MethodId} {args : Array Value} {below : List Frame} {meth : Method} {c : Code} {Q : State → Prop} {D : va_G} {A : Nat → Prop} {ar : Nat → Nat → Nat} {ag : Nat → Nat} {ca : Nat → ClassId} {am : Nat → Nat} {ao b0 L : Nat} {xs : Nat → Int32} {I : Int32} {Inv : RowsS → GlbS → RowS → Prop} {cells slots : Nat} {z : ZG} (K : MC D ca p s m args meth c cL_law 9 RL) (hl0 : l.stackTraces = false) (hA : ∀ q, s.heap.size ≤ q → A q) (hZ : ZF z A s s.heap) (hS : va_X b0 L xs s s.heap ∧ b0 < s.heap.size ∧ ¬ A b0) (hroom : cells + 1 ≤ 601024 ∧ slots + 6 ≤ 7293034) {a1 : Int32} {a2 : Int32} {a3 : Int32} (h1 : vp_in (I + 1) L ∧ xs (I + 1).toNatClampNeg = a1) (h2 : vp_in (I + 2) L ∧ xs (I + 2).toNatClampNeg = a2) (h3 : vp_in (I + 3) L ∧ xs (I + 3).toNatClampNeg = a3) {P : RowsS} {G : GlbS} {M : RowS} {O : Nat → Int64} {H : Heap} {locs : List Loc} {ls : Array Slot} (hok : OK_readingWith Inv P G M a1 a2 a3) (X : RX D A (wL ar ag ca am P G M ao O) s.heap H locs) (hl : lv_has ls 9 [(0, .ref b0), (1, .ref (ag 0)), (2, .ref (am 0)), (3, .ref ao), (4, .int I)]) (kk : LwAt p l e s m args below meth c Q D A ar ag ca am ao b0 I Inv (cells + 1) (slots + 6) 2302) : W p l e room_1 s m args below meth c H locs cells slots Q (F0 m 1091 ls []) := by
  have hx := K.1
  have hb := K.2.1
  unfold OK_readingWith at hok
  rcases hok with hok | hok | hok
  · skip
    obtain ⟨n, res, P', n2, b, M', h7, h8, hT, hv, hI⟩ := hok
    refine lv_aload_n hx hb dL_law_1091 rfl (lv_at hl 1 rfl) ?_
    refine lv_aload_n hx hb dL_law_1092 rfl (lv_at hl 0 rfl) ?_
    refine lv_iload hx hb dL_law_1093 (lv_at hl 4 rfl) ?_
    refine lv_iconst (v := 1) hx hb dL_law_1095 (by decide) ?_
    refine lv_iadd hx hb dL_law_1096 ?_
    refine x_sld K X hS h1 dL_law_1097 ?_
    refine lv_aload_n hx hb dL_law_1098 rfl (lv_at hl 0 rfl) ?_
    refine lv_iload hx hb dL_law_1099 (lv_at hl 4 rfl) ?_
    refine lv_iconst (v := 2) hx hb dL_law_1101 (by decide) ?_
    refine lv_iadd hx hb dL_law_1102 ?_
    refine x_sld K X hS h2 dL_law_1103 ?_
    refine lv_aload_n hx hb dL_law_1104 rfl (lv_at hl 0 rfl) ?_
    refine lv_iload hx hb dL_law_1105 (lv_at hl 4 rfl) ?_
    refine lv_iconst (v := 3) hx hb dL_law_1107 (by decide) ?_
    refine lv_iadd hx hb dL_law_1108 ?_
    refine x_sld K X hS h3 dL_law_1109 ?_
    refine lv_aload_n hx hb dL_law_1110 rfl (lv_at hl 3 rfl) ?_
    have kx := n_L_readingWith l D ca ar ag z n P G (wM am ca M) ao O a1 a2 a3 res P' h7 H.size
    refine x_callSW K hA hZ X kx hl.1 5 q952 q953 q86 q954 hs_L_readingWith ⟨⟨(Nat.le_of_ble_eq_true rfl), (Nat.le_of_ble_eq_true rfl)⟩, rfl, rfl⟩ rfl rfl (Nat.le_of_ble_eq_true rfl) dL_law_1111 ⟨hroom.1, hroom.2⟩ rfl (fun H locs X => ?_)
    refine lv_istore (lv' := [(5, .int 0), (0, .ref b0), (1, .ref (ag 0)), (2, .ref (am 0)), (3, .ref ao), (4, .int I)]) hx hb dL_law_1114 hl (by decide) rfl (fun ls hl => ?_)
    refine lv_aload_n hx hb dL_law_1116 rfl (lv_at hl 3 rfl) ?_
    refine lv_aload_n hx hb dL_law_1117 rfl (lv_at hl 1 rfl) ?_
    refine lv_iload hx hb dL_law_1118 (lv_at hl 5 rfl) ?_
    refine lv_iconst (v := 1) hx hb dL_law_1120 (by decide) ?_
    refine lv_iadd hx hb dL_law_1121 ?_
    refine x_sld K X hS h1 dL_law_1122 ?_
    refine lv_aload_n hx hb dL_law_1123 rfl (lv_at hl 1 rfl) ?_
    refine lv_iload hx hb dL_law_1124 (lv_at hl 5 rfl) ?_
    refine lv_iconst (v := 2) hx hb dL_law_1126 (by decide) ?_
    refine lv_iadd hx hb dL_law_1127 ?_
    refine x_sld K X hS h2 dL_law_1128 ?_
    refine lv_aload_n hx hb dL_law_1129 rfl (lv_at hl 1 rfl) ?_
    refine lv_iload hx hb dL_law_1130 (lv_at hl 5 rfl) ?_
    refine lv_iconst (v := 3) hx hb dL_law_1132 (by decide) ?_
    refine lv_iadd hx hb dL_law_1133 ?_
    refine x_sld K X hS h3 dL_law_1134 ?_
    have X := X.perm wL_swap
    have kx := m_X8_readingWith l D ca am n2 M (wC ar ag ca P' G ++ [(ao, oc ca (va_up O 0 res.toInt64))]) a1 a2 a3 b M' h8 H.size
    refine x_callVw K hA X kx hl.1 3 q1795 q1796 q1797 q97 q1798 hv_X8_readingWith ⟨⟨(Nat.le_of_ble_eq_true rfl), (Nat.le_of_ble_eq_true rfl)⟩, rfl, rfl⟩ pl_modo rfl rfl rfl rfl (Nat.le_of_ble_eq_true rfl) dL_law_1135 ⟨(by show cells + 1 + 0 ≤ 601024; omega), (by show slots + 6 + 0 ≤ 7293034; omega)⟩ rfl (fun H locs X => ?_)
    have X := X.perm wL_swap.symm
    refine lv_istore (lv' := [(6, .int b), (5, .int 0), (0, .ref b0), (1, .ref (ag 0)), (2, .ref (am 0)), (3, .ref ao), (4, .int I)]) hx hb dL_law_1138 hl (by decide) rfl (fun ls hl => ?_)
    refine lv_aload_n hx hb dL_law_1140 rfl (lv_at hl 4 rfl) ?_
    have X := X.perm wL_swap
    have kx := m_X8_thrown l D ca am M' (wC ar ag ca P' G ++ [(ao, oc ca (va_up O 0 res.toInt64))]) 0 hT H.size
    refine x_callVw K hA X kx hl.1 0 q1380 q1381 q1382 q97 q1383 hv_X8_thrown ⟨⟨(Nat.le_of_ble_eq_true rfl), (Nat.le_of_ble_eq_true rfl)⟩, rfl, rfl⟩ pl_modo rfl rfl rfl rfl (Nat.le_of_ble_eq_true rfl) dL_law_1141 ⟨(by show cells + 1 + 0 ≤ 601024; omega), (by show slots + 6 + 0 ≤ 7293034; omega)⟩ rfl (fun H locs X => ?_)
    have X := X.perm wL_swap.symm
    refine lv_iload hx hb dL_law_1144 (lv_at hl 1 rfl) ?_
    refine lv_icmp_eq (tgt := 1151) hx hb dL_law_1146 (by decide) (fun _ => ?_) (fun c1 => absurd rfl c1)
    refine lv_iload hx hb dL_law_1151 (lv_at hl 1 rfl) ?_
    refine lv_if_ne (tgt := 1168) hx hb dL_law_1153 (by decide) (fun c1 => absurd rfl c1) (fun _ => ?_)
    refine lv_aload_n hx hb dL_law_1156 rfl (lv_at hl 5 rfl) ?_
    refine lv_iconst (v := 0) hx hb dL_law_1157 (by decide) ?_
    refine x_lald K X (241 + (wM am ca M').length) ctor_atw (vp_in_iff.mpr (by decide)) dL_law_1158 ?_
    refine lv_iload hx hb dL_law_1159 (lv_at hl 0 rfl) ?_
    refine lv_i2l hx hb dL_law_1161 rfl ?_
    refine w_beq (tgt := 1168) K dL_law_1162 dL_law_1163 (by decide) (fun _ => ?_) (fun c1 => absurd (by rw [show (0 : Int32).toNatClampNeg = 0 from rfl, va_up_self]; exact hv) c1)
    refine lv_goto (tgt := 2302) hx hb dL_law_1168 (by decide) ?_
    exact kk P' G M' (va_up O 0 res.toInt64) H locs ls hI X (lv_sub hl [2, 3, 4, 5, 6] rfl)
  · skip
    obtain ⟨n2, b, M', ht, h8, hT, hI⟩ := hok
    refine lv_aload_n hx hb dL_law_1091 rfl (lv_at hl 1 rfl) ?_
    refine lv_aload_n hx hb dL_law_1092 rfl (lv_at hl 0 rfl) ?_
    refine lv_iload hx hb dL_law_1093 (lv_at hl 4 rfl) ?_
    refine lv_iconst (v := 1) hx hb dL_law_1095 (by decide) ?_
    refine lv_iadd hx hb dL_law_1096 ?_
    refine x_sld K X hS h1 dL_law_1097 ?_
    refine lv_aload_n hx hb dL_law_1098 rfl (lv_at hl 0 rfl) ?_
    refine lv_iload hx hb dL_law_1099 (lv_at hl 4 rfl) ?_
    refine lv_iconst (v := 2) hx hb dL_law_1101 (by decide) ?_
    refine lv_iadd hx hb dL_law_1102 ?_
    refine x_sld K X hS h2 dL_law_1103 ?_
    refine lv_aload_n hx hb dL_law_1104 rfl (lv_at hl 0 rfl) ?_
    refine lv_iload hx hb dL_law_1105 (lv_at hl 4 rfl) ?_
    refine lv_iconst (v := 3) hx hb dL_law_1107 (by decide) ?_
    refine lv_iadd hx hb dL_law_1108 ?_
    refine x_sld K X hS h3 dL_law_1109 ?_
    refine lv_aload_n hx hb dL_law_1110 rfl (lv_at hl 3 rfl) ?_
    have kx := e1_L_readingWith l D ca ar ag z hl0 P G (wM am ca M) ao O a1 a2 a3 ht H.size
    refine x_callSW K hA hZ X kx hl.1 5 q952 q953 q86 q954 hs_L_readingWith ⟨⟨(Nat.le_of_ble_eq_true rfl), (Nat.le_of_ble_eq_true rfl)⟩, rfl, rfl⟩ rfl rfl (Nat.le_of_ble_eq_true rfl) dL_law_1111 ⟨hroom.1, hroom.2⟩ rfl (fun H locs X => ?_)
    refine lv_istore (lv' := [(5, .int 1), (0, .ref b0), (1, .ref (ag 0)), (2, .ref (am 0)), (3, .ref ao), (4, .int I)]) hx hb dL_law_1114 hl (by decide) rfl (fun ls hl => ?_)
    refine lv_aload_n hx hb dL_law_1116 rfl (lv_at hl 3 rfl) ?_
    refine lv_aload_n hx hb dL_law_1117 rfl (lv_at hl 1 rfl) ?_
    refine lv_iload hx hb dL_law_1118 (lv_at hl 5 rfl) ?_
    refine lv_iconst (v := 1) hx hb dL_law_1120 (by decide) ?_
    refine lv_iadd hx hb dL_law_1121 ?_
    refine x_sld K X hS h1 dL_law_1122 ?_
    refine lv_aload_n hx hb dL_law_1123 rfl (lv_at hl 1 rfl) ?_
    refine lv_iload hx hb dL_law_1124 (lv_at hl 5 rfl) ?_
    refine lv_iconst (v := 2) hx hb dL_law_1126 (by decide) ?_
    refine lv_iadd hx hb dL_law_1127 ?_
    refine x_sld K X hS h2 dL_law_1128 ?_
    refine lv_aload_n hx hb dL_law_1129 rfl (lv_at hl 1 rfl) ?_
    refine lv_iload hx hb dL_law_1130 (lv_at hl 5 rfl) ?_
    refine lv_iconst (v := 3) hx hb dL_law_1132 (by decide) ?_
    refine lv_iadd hx hb dL_law_1133 ?_
    refine x_sld K X hS h3 dL_law_1134 ?_
    have X := X.perm wL_swap
    have kx := m_X8_readingWith l D ca am n2 M (wC ar ag ca P G ++ [(ao, oc ca O)]) a1 a2 a3 b M' h8 H.size
    refine x_callVw K hA X kx hl.1 3 q1795 q1796 q1797 q97 q1798 hv_X8_readingWith ⟨⟨(Nat.le_of_ble_eq_true rfl), (Nat.le_of_ble_eq_true rfl)⟩, rfl, rfl⟩ pl_modo rfl rfl rfl rfl (Nat.le_of_ble_eq_true rfl) dL_law_1135 ⟨(by show cells + 1 + 0 ≤ 601024; omega), (by show slots + 6 + 0 ≤ 7293034; omega)⟩ rfl (fun H locs X => ?_)
    have X := X.perm wL_swap.symm
    refine lv_istore (lv' := [(6, .int b), (5, .int 1), (0, .ref b0), (1, .ref (ag 0)), (2, .ref (am 0)), (3, .ref ao), (4, .int I)]) hx hb dL_law_1138 hl (by decide) rfl (fun ls hl => ?_)
    refine lv_aload_n hx hb dL_law_1140 rfl (lv_at hl 4 rfl) ?_
    have X := X.perm wL_swap
    have kx := m_X8_thrown l D ca am M' (wC ar ag ca P G ++ [(ao, oc ca O)]) 1 hT H.size
    refine x_callVw K hA X kx hl.1 0 q1380 q1381 q1382 q97 q1383 hv_X8_thrown ⟨⟨(Nat.le_of_ble_eq_true rfl), (Nat.le_of_ble_eq_true rfl)⟩, rfl, rfl⟩ pl_modo rfl rfl rfl rfl (Nat.le_of_ble_eq_true rfl) dL_law_1141 ⟨(by show cells + 1 + 0 ≤ 601024; omega), (by show slots + 6 + 0 ≤ 7293034; omega)⟩ rfl (fun H locs X => ?_)
    have X := X.perm wL_swap.symm
    refine lv_iload hx hb dL_law_1144 (lv_at hl 1 rfl) ?_
    refine lv_icmp_eq (tgt := 1151) hx hb dL_law_1146 (by decide) (fun _ => ?_) (fun c1 => absurd rfl c1)
    refine lv_iload hx hb dL_law_1151 (lv_at hl 1 rfl) ?_
    refine lv_if_ne (tgt := 1168) hx hb dL_law_1153 (by decide) (fun _ => ?_) (fun c1 => absurd c1 (by decide))
    refine lv_goto (tgt := 2302) hx hb dL_law_1168 (by decide) ?_
    exact kk P G M' O H locs ls hI X (lv_sub hl [2, 3, 4, 5, 6] rfl)
  · skip
    obtain ⟨n2, b, M', ht, h8, hT, hI⟩ := hok
    refine lv_aload_n hx hb dL_law_1091 rfl (lv_at hl 1 rfl) ?_
    refine lv_aload_n hx hb dL_law_1092 rfl (lv_at hl 0 rfl) ?_
    refine lv_iload hx hb dL_law_1093 (lv_at hl 4 rfl) ?_
    refine lv_iconst (v := 1) hx hb dL_law_1095 (by decide) ?_
    refine lv_iadd hx hb dL_law_1096 ?_
    refine x_sld K X hS h1 dL_law_1097 ?_
    refine lv_aload_n hx hb dL_law_1098 rfl (lv_at hl 0 rfl) ?_
    refine lv_iload hx hb dL_law_1099 (lv_at hl 4 rfl) ?_
    refine lv_iconst (v := 2) hx hb dL_law_1101 (by decide) ?_
    refine lv_iadd hx hb dL_law_1102 ?_
    refine x_sld K X hS h2 dL_law_1103 ?_
    refine lv_aload_n hx hb dL_law_1104 rfl (lv_at hl 0 rfl) ?_
    refine lv_iload hx hb dL_law_1105 (lv_at hl 4 rfl) ?_
    refine lv_iconst (v := 3) hx hb dL_law_1107 (by decide) ?_
    refine lv_iadd hx hb dL_law_1108 ?_
    refine x_sld K X hS h3 dL_law_1109 ?_
    refine lv_aload_n hx hb dL_law_1110 rfl (lv_at hl 3 rfl) ?_
    have kx := e2_L_readingWith l D ca ar ag z hl0 P G (wM am ca M) ao O a1 a2 a3 ht H.size
    refine x_callSW K hA hZ X kx hl.1 5 q952 q953 q86 q954 hs_L_readingWith ⟨⟨(Nat.le_of_ble_eq_true rfl), (Nat.le_of_ble_eq_true rfl)⟩, rfl, rfl⟩ rfl rfl (Nat.le_of_ble_eq_true rfl) dL_law_1111 ⟨hroom.1, hroom.2⟩ rfl (fun H locs X => ?_)
    refine lv_istore (lv' := [(5, .int 2), (0, .ref b0), (1, .ref (ag 0)), (2, .ref (am 0)), (3, .ref ao), (4, .int I)]) hx hb dL_law_1114 hl (by decide) rfl (fun ls hl => ?_)
    refine lv_aload_n hx hb dL_law_1116 rfl (lv_at hl 3 rfl) ?_
    refine lv_aload_n hx hb dL_law_1117 rfl (lv_at hl 1 rfl) ?_
    refine lv_iload hx hb dL_law_1118 (lv_at hl 5 rfl) ?_
    refine lv_iconst (v := 1) hx hb dL_law_1120 (by decide) ?_
    refine lv_iadd hx hb dL_law_1121 ?_
    refine x_sld K X hS h1 dL_law_1122 ?_
    refine lv_aload_n hx hb dL_law_1123 rfl (lv_at hl 1 rfl) ?_
    refine lv_iload hx hb dL_law_1124 (lv_at hl 5 rfl) ?_
    refine lv_iconst (v := 2) hx hb dL_law_1126 (by decide) ?_
    refine lv_iadd hx hb dL_law_1127 ?_
    refine x_sld K X hS h2 dL_law_1128 ?_
    refine lv_aload_n hx hb dL_law_1129 rfl (lv_at hl 1 rfl) ?_
    refine lv_iload hx hb dL_law_1130 (lv_at hl 5 rfl) ?_
    refine lv_iconst (v := 3) hx hb dL_law_1132 (by decide) ?_
    refine lv_iadd hx hb dL_law_1133 ?_
    refine x_sld K X hS h3 dL_law_1134 ?_
    have X := X.perm wL_swap
    have kx := m_X8_readingWith l D ca am n2 M (wC ar ag ca P G ++ [(ao, oc ca O)]) a1 a2 a3 b M' h8 H.size
    refine x_callVw K hA X kx hl.1 3 q1795 q1796 q1797 q97 q1798 hv_X8_readingWith ⟨⟨(Nat.le_of_ble_eq_true rfl), (Nat.le_of_ble_eq_true rfl)⟩, rfl, rfl⟩ pl_modo rfl rfl rfl rfl (Nat.le_of_ble_eq_true rfl) dL_law_1135 ⟨(by show cells + 1 + 0 ≤ 601024; omega), (by show slots + 6 + 0 ≤ 7293034; omega)⟩ rfl (fun H locs X => ?_)
    have X := X.perm wL_swap.symm
    refine lv_istore (lv' := [(6, .int b), (5, .int 2), (0, .ref b0), (1, .ref (ag 0)), (2, .ref (am 0)), (3, .ref ao), (4, .int I)]) hx hb dL_law_1138 hl (by decide) rfl (fun ls hl => ?_)
    refine lv_aload_n hx hb dL_law_1140 rfl (lv_at hl 4 rfl) ?_
    have X := X.perm wL_swap
    have kx := m_X8_thrown l D ca am M' (wC ar ag ca P G ++ [(ao, oc ca O)]) 2 hT H.size
    refine x_callVw K hA X kx hl.1 0 q1380 q1381 q1382 q97 q1383 hv_X8_thrown ⟨⟨(Nat.le_of_ble_eq_true rfl), (Nat.le_of_ble_eq_true rfl)⟩, rfl, rfl⟩ pl_modo rfl rfl rfl rfl (Nat.le_of_ble_eq_true rfl) dL_law_1141 ⟨(by show cells + 1 + 0 ≤ 601024; omega), (by show slots + 6 + 0 ≤ 7293034; omega)⟩ rfl (fun H locs X => ?_)
    have X := X.perm wL_swap.symm
    refine lv_iload hx hb dL_law_1144 (lv_at hl 1 rfl) ?_
    refine lv_icmp_eq (tgt := 1151) hx hb dL_law_1146 (by decide) (fun _ => ?_) (fun c1 => absurd rfl c1)
    refine lv_iload hx hb dL_law_1151 (lv_at hl 1 rfl) ?_
    refine lv_if_ne (tgt := 1168) hx hb dL_law_1153 (by decide) (fun _ => ?_) (fun c1 => absurd c1 (by decide))
    refine lv_goto (tgt := 2302) hx hb dL_law_1168 (by decide) ?_
    exact kk P G M' O H locs ls hI X (lv_sub hl [2, 3, 4, 5, 6] rfl)
-- case 18
def OK_breaksIn (Inv : RowsS → GlbS → RowS → Prop) (P : RowsS) (G : GlbS) (M : RowS) (a1 : Int32) (a2 : Int32) : Prop :=
  (∃ (n : Nat) (res : Int32) (P' : RowsS) (n2 : Nat) (b : Int32) (M' : RowS), f_X7_breaksIn n P G a1 a2 = some (res, P') ∧ f_X8_breaksIn n2 M a1 a2 = some (b, M') ∧ f_X8_thrown M' = 0 ∧ res.toInt64 = b.toInt64 ∧ Inv P' G M') ∨
  (∃ (n2 : Nat) (b : Int32) (M' : RowS), t_X7_breaksIn P G a1 a2 = some 1 ∧ f_X8_breaksIn n2 M a1 a2 = some (b, M') ∧ f_X8_thrown M' = 1 ∧ Inv P G M') ∨
  (∃ (n2 : Nat) (b : Int32) (M' : RowS), t_X7_breaksIn P G a1 a2 = some 2 ∧ f_X8_breaksIn n2 M a1 a2 = some (b, M') ∧ f_X8_thrown M' = 2 ∧ Inv P G M')
set_option maxRecDepth 100000 in
set_option maxHeartbeats 4000000 in
theorem k_breaksIn {p : Program} {l : Launch} {e : Env} {s : State} {m : MethodId} {args : Array Value} {below : List Frame} {meth : Method} {c : Code} {Q : State → Prop} {D : va_G} {A : Nat → Prop} {ar : Nat → Nat → Nat} {ag : Nat → Nat} {ca : Nat → ClassId} {am : Nat → Nat} {ao b0 L : Nat} {xs : Nat → Int32} {I : Int32} {Inv : RowsS → GlbS → RowS → Prop} {cells slots : Nat} {z : ZG} (K : MC D ca p s m args meth c cL_law 9 RL) (hl0 : l.stackTraces = false) (hA : ∀ q, s.heap.size ≤ q → A q) (hZ : ZF z A s s.heap) (hS : va_X b0 L xs s s.heap ∧ b0 < s.heap.size ∧ ¬ A b0) (hroom : cells + 1 ≤ 601024 ∧ slots + 6 ≤ 7293034) {a1 : Int32} {a2 : Int32} (h1 : vp_in (I + 1) L ∧ xs (I + 1).toNatClampNeg = a1) (h2 : vp_in (I + 2) L ∧ xs (I + 2).toNatClampNeg = a2) {P : RowsS} {G : GlbS} {M : RowS} {O : Nat → Int64} {H : Heap} {locs : List Loc} {ls : Array Slot} (hok : OK_breaksIn Inv P G M a1 a2) (X : RX D A (wL ar ag ca am P G M ao O) s.heap H locs) (hl : lv_has ls 9 [(0, .ref b0), (1, .ref (ag 0)), (2, .ref (am 0)), (3, .ref ao), (4, .int I)]) (kk : LwAt p l e s m args below meth c Q D A ar ag ca am ao b0 I Inv (cells + 1) (slots + 6) 2302) : W p l e room_1 s m args below meth c H locs cells slots Q (F0 m 1171 ls []) := by
  have hx := K.1
  have hb := K.2.1
  unfold OK_breaksIn at hok
  rcases hok with hok | hok | hok
  · skip
    obtain ⟨n, res, P', n2, b, M', h7, h8, hT, hv, hI⟩ := hok
    refine lv_aload_n hx hb dL_law_1171 rfl (lv_at hl 1 rfl) ?_
    refine lv_aload_n hx hb dL_law_1172 rfl (lv_at hl 0 rfl) ?_
    refine lv_iload hx hb dL_law_1173 (lv_at hl 4 rfl) ?_
    refine lv_iconst (v := 1) hx hb dL_law_1175 (by decide) ?_
    refine lv_iadd hx hb dL_law_1176 ?_
    refine x_sld K X hS h1 dL_law_1177 ?_
    refine lv_aload_n hx hb dL_law_1178 rfl (lv_at hl 0 rfl) ?_
    refine lv_iload hx hb dL_law_1179 (lv_at hl 4 rfl) ?_
    refine lv_iconst (v := 2) hx hb dL_law_1181 (by decide) ?_
    refine lv_iadd hx hb dL_law_1182 ?_
    refine x_sld K X hS h2 dL_law_1183 ?_
    refine lv_aload_n hx hb dL_law_1184 rfl (lv_at hl 3 rfl) ?_
    have kx := n_L_breaksIn l D ca ar ag z n P G (wM am ca M) ao O a1 a2 res P' h7 H.size
    refine x_callSW K hA hZ X kx hl.1 4 q959 q960 q86 q961 hs_L_breaksIn ⟨⟨(Nat.le_of_ble_eq_true rfl), (Nat.le_of_ble_eq_true rfl)⟩, rfl, rfl⟩ rfl rfl (Nat.le_of_ble_eq_true rfl) dL_law_1185 ⟨hroom.1, hroom.2⟩ rfl (fun H locs X => ?_)
    refine lv_istore (lv' := [(5, .int 0), (0, .ref b0), (1, .ref (ag 0)), (2, .ref (am 0)), (3, .ref ao), (4, .int I)]) hx hb dL_law_1188 hl (by decide) rfl (fun ls hl => ?_)
    refine lv_aload_n hx hb dL_law_1190 rfl (lv_at hl 3 rfl) ?_
    refine lv_aload_n hx hb dL_law_1191 rfl (lv_at hl 1 rfl) ?_
    refine lv_iload hx hb dL_law_1192 (lv_at hl 5 rfl) ?_
    refine lv_iconst (v := 1) hx hb dL_law_1194 (by decide) ?_
    refine lv_iadd hx hb dL_law_1195 ?_
    refine x_sld K X hS h1 dL_law_1196 ?_
    refine lv_aload_n hx hb dL_law_1197 rfl (lv_at hl 1 rfl) ?_
    refine lv_iload hx hb dL_law_1198 (lv_at hl 5 rfl) ?_
    refine lv_iconst (v := 2) hx hb dL_law_1200 (by decide) ?_
    refine lv_iadd hx hb dL_law_1201 ?_
    refine x_sld K X hS h2 dL_law_1202 ?_
    have X := X.perm wL_swap
    have kx := m_X8_breaksIn l D ca am n2 M (wC ar ag ca P' G ++ [(ao, oc ca (va_up O 0 res.toInt64))]) a1 a2 b M' h8 H.size
    refine x_callVw K hA X kx hl.1 2 q1799 q1800 q1801 q97 q1802 hv_X8_breaksIn ⟨⟨(Nat.le_of_ble_eq_true rfl), (Nat.le_of_ble_eq_true rfl)⟩, rfl, rfl⟩ pl_modo rfl rfl rfl rfl (Nat.le_of_ble_eq_true rfl) dL_law_1203 ⟨(by show cells + 1 + 0 ≤ 601024; omega), (by show slots + 6 + 0 ≤ 7293034; omega)⟩ rfl (fun H locs X => ?_)
    have X := X.perm wL_swap.symm
    refine lv_istore (lv' := [(6, .int b), (5, .int 0), (0, .ref b0), (1, .ref (ag 0)), (2, .ref (am 0)), (3, .ref ao), (4, .int I)]) hx hb dL_law_1206 hl (by decide) rfl (fun ls hl => ?_)
    refine lv_aload_n hx hb dL_law_1208 rfl (lv_at hl 4 rfl) ?_
    have X := X.perm wL_swap
    have kx := m_X8_thrown l D ca am M' (wC ar ag ca P' G ++ [(ao, oc ca (va_up O 0 res.toInt64))]) 0 hT H.size
    refine x_callVw K hA X kx hl.1 0 q1380 q1381 q1382 q97 q1383 hv_X8_thrown ⟨⟨(Nat.le_of_ble_eq_true rfl), (Nat.le_of_ble_eq_true rfl)⟩, rfl, rfl⟩ pl_modo rfl rfl rfl rfl (Nat.le_of_ble_eq_true rfl) dL_law_1209 ⟨(by show cells + 1 + 0 ≤ 601024; omega), (by show slots + 6 + 0 ≤ 7293034; omega)⟩ rfl (fun H locs X => ?_)
    have X := X.perm wL_swap.symm
    refine lv_iload hx hb dL_law_1212 (lv_at hl 1 rfl) ?_
    refine lv_icmp_eq (tgt := 1219) hx hb dL_law_1214 (by decide) (fun _ => ?_) (fun c1 => absurd rfl c1)
    refine lv_iload hx hb dL_law_1219 (lv_at hl 1 rfl) ?_
    refine lv_if_ne (tgt := 1236) hx hb dL_law_1221 (by decide) (fun c1 => absurd rfl c1) (fun _ => ?_)
    refine lv_aload_n hx hb dL_law_1224 rfl (lv_at hl 5 rfl) ?_
    refine lv_iconst (v := 0) hx hb dL_law_1225 (by decide) ?_
    refine x_lald K X (241 + (wM am ca M').length) ctor_atw (vp_in_iff.mpr (by decide)) dL_law_1226 ?_
    refine lv_iload hx hb dL_law_1227 (lv_at hl 0 rfl) ?_
    refine lv_i2l hx hb dL_law_1229 rfl ?_
    refine w_beq (tgt := 1236) K dL_law_1230 dL_law_1231 (by decide) (fun _ => ?_) (fun c1 => absurd (by rw [show (0 : Int32).toNatClampNeg = 0 from rfl, va_up_self]; exact hv) c1)
    refine lv_goto (tgt := 2302) hx hb dL_law_1236 (by decide) ?_
    exact kk P' G M' (va_up O 0 res.toInt64) H locs ls hI X (lv_sub hl [2, 3, 4, 5, 6] rfl)
  · skip
    obtain ⟨n2, b, M', ht, h8, hT, hI⟩ := hok
    refine lv_aload_n hx hb dL_law_1171 rfl (lv_at hl 1 rfl) ?_
    refine lv_aload_n hx hb dL_law_1172 rfl (lv_at hl 0 rfl) ?_
    refine lv_iload hx hb dL_law_1173 (lv_at hl 4 rfl) ?_
    refine lv_iconst (v := 1) hx hb dL_law_1175 (by decide) ?_
    refine lv_iadd hx hb dL_law_1176 ?_
    refine x_sld K X hS h1 dL_law_1177 ?_
    refine lv_aload_n hx hb dL_law_1178 rfl (lv_at hl 0 rfl) ?_
    refine lv_iload hx hb dL_law_1179 (lv_at hl 4 rfl) ?_
    refine lv_iconst (v := 2) hx hb dL_law_1181 (by decide) ?_
    refine lv_iadd hx hb dL_law_1182 ?_
    refine x_sld K X hS h2 dL_law_1183 ?_
    refine lv_aload_n hx hb dL_law_1184 rfl (lv_at hl 3 rfl) ?_
    have kx := e1_L_breaksIn l D ca ar ag z hl0 P G (wM am ca M) ao O a1 a2 ht H.size
    refine x_callSW K hA hZ X kx hl.1 4 q959 q960 q86 q961 hs_L_breaksIn ⟨⟨(Nat.le_of_ble_eq_true rfl), (Nat.le_of_ble_eq_true rfl)⟩, rfl, rfl⟩ rfl rfl (Nat.le_of_ble_eq_true rfl) dL_law_1185 ⟨hroom.1, hroom.2⟩ rfl (fun H locs X => ?_)
    refine lv_istore (lv' := [(5, .int 1), (0, .ref b0), (1, .ref (ag 0)), (2, .ref (am 0)), (3, .ref ao), (4, .int I)]) hx hb dL_law_1188 hl (by decide) rfl (fun ls hl => ?_)
    refine lv_aload_n hx hb dL_law_1190 rfl (lv_at hl 3 rfl) ?_
    refine lv_aload_n hx hb dL_law_1191 rfl (lv_at hl 1 rfl) ?_
    refine lv_iload hx hb dL_law_1192 (lv_at hl 5 rfl) ?_
    refine lv_iconst (v := 1) hx hb dL_law_1194 (by decide) ?_
    refine lv_iadd hx hb dL_law_1195 ?_
    refine x_sld K X hS h1 dL_law_1196 ?_
    refine lv_aload_n hx hb dL_law_1197 rfl (lv_at hl 1 rfl) ?_
    refine lv_iload hx hb dL_law_1198 (lv_at hl 5 rfl) ?_
    refine lv_iconst (v := 2) hx hb dL_law_1200 (by decide) ?_
    refine lv_iadd hx hb dL_law_1201 ?_
    refine x_sld K X hS h2 dL_law_1202 ?_
    have X := X.perm wL_swap
    have kx := m_X8_breaksIn l D ca am n2 M (wC ar ag ca P G ++ [(ao, oc ca O)]) a1 a2 b M' h8 H.size
    refine x_callVw K hA X kx hl.1 2 q1799 q1800 q1801 q97 q1802 hv_X8_breaksIn ⟨⟨(Nat.le_of_ble_eq_true rfl), (Nat.le_of_ble_eq_true rfl)⟩, rfl, rfl⟩ pl_modo rfl rfl rfl rfl (Nat.le_of_ble_eq_true rfl) dL_law_1203 ⟨(by show cells + 1 + 0 ≤ 601024; omega), (by show slots + 6 + 0 ≤ 7293034; omega)⟩ rfl (fun H locs X => ?_)
    have X := X.perm wL_swap.symm
    refine lv_istore (lv' := [(6, .int b), (5, .int 1), (0, .ref b0), (1, .ref (ag 0)), (2, .ref (am 0)), (3, .ref ao), (4, .int I)]) hx hb dL_law_1206 hl (by decide) rfl (fun ls hl => ?_)
    refine lv_aload_n hx hb dL_law_1208 rfl (lv_at hl 4 rfl) ?_
    have X := X.perm wL_swap
    have kx := m_X8_thrown l D ca am M' (wC ar ag ca P G ++ [(ao, oc ca O)]) 1 hT H.size
    refine x_callVw K hA X kx hl.1 0 q1380 q1381 q1382 q97 q1383 hv_X8_thrown ⟨⟨(Nat.le_of_ble_eq_true rfl), (Nat.le_of_ble_eq_true rfl)⟩, rfl, rfl⟩ pl_modo rfl rfl rfl rfl (Nat.le_of_ble_eq_true rfl) dL_law_1209 ⟨(by show cells + 1 + 0 ≤ 601024; omega), (by show slots + 6 + 0 ≤ 7293034; omega)⟩ rfl (fun H locs X => ?_)
    have X := X.perm wL_swap.symm
    refine lv_iload hx hb dL_law_1212 (lv_at hl 1 rfl) ?_
    refine lv_icmp_eq (tgt := 1219) hx hb dL_law_1214 (by decide) (fun _ => ?_) (fun c1 => absurd rfl c1)
    refine lv_iload hx hb dL_law_1219 (lv_at hl 1 rfl) ?_
    refine lv_if_ne (tgt := 1236) hx hb dL_law_1221 (by decide) (fun _ => ?_) (fun c1 => absurd c1 (by decide))
    refine lv_goto (tgt := 2302) hx hb dL_law_1236 (by decide) ?_
    exact kk P G M' O H locs ls hI X (lv_sub hl [2, 3, 4, 5, 6] rfl)
  · skip
    obtain ⟨n2, b, M', ht, h8, hT, hI⟩ := hok
    refine lv_aload_n hx hb dL_law_1171 rfl (lv_at hl 1 rfl) ?_
    refine lv_aload_n hx hb dL_law_1172 rfl (lv_at hl 0 rfl) ?_
    refine lv_iload hx hb dL_law_1173 (lv_at hl 4 rfl) ?_
    refine lv_iconst (v := 1) hx hb dL_law_1175 (by decide) ?_
    refine lv_iadd hx hb dL_law_1176 ?_
    refine x_sld K X hS h1 dL_law_1177 ?_
    refine lv_aload_n hx hb dL_law_1178 rfl (lv_at hl 0 rfl) ?_
    refine lv_iload hx hb dL_law_1179 (lv_at hl 4 rfl) ?_
    refine lv_iconst (v := 2) hx hb dL_law_1181 (by decide) ?_
    refine lv_iadd hx hb dL_law_1182 ?_
    refine x_sld K X hS h2 dL_law_1183 ?_
    refine lv_aload_n hx hb dL_law_1184 rfl (lv_at hl 3 rfl) ?_
    have kx := e2_L_breaksIn l D ca ar ag z hl0 P G (wM am ca M) ao O a1 a2 ht H.size
    refine x_callSW K hA hZ X kx hl.1 4 q959 q960 q86 q961 hs_L_breaksIn ⟨⟨(Nat.le_of_ble_eq_true rfl), (Nat.le_of_ble_eq_true rfl)⟩, rfl, rfl⟩ rfl rfl (Nat.le_of_ble_eq_true rfl) dL_law_1185 ⟨hroom.1, hroom.2⟩ rfl (fun H locs X => ?_)
    refine lv_istore (lv' := [(5, .int 2), (0, .ref b0), (1, .ref (ag 0)), (2, .ref (am 0)), (3, .ref ao), (4, .int I)]) hx hb dL_law_1188 hl (by decide) rfl (fun ls hl => ?_)
    refine lv_aload_n hx hb dL_law_1190 rfl (lv_at hl 3 rfl) ?_
    refine lv_aload_n hx hb dL_law_1191 rfl (lv_at hl 1 rfl) ?_
    refine lv_iload hx hb dL_law_1192 (lv_at hl 5 rfl) ?_
    refine lv_iconst (v := 1) hx hb dL_law_1194 (by decide) ?_
    refine lv_iadd hx hb dL_law_1195 ?_
    refine x_sld K X hS h1 dL_law_1196 ?_
    refine lv_aload_n hx hb dL_law_1197 rfl (lv_at hl 1 rfl) ?_
    refine lv_iload hx hb dL_law_1198 (lv_at hl 5 rfl) ?_
    refine lv_iconst (v := 2) hx hb dL_law_1200 (by decide) ?_
    refine lv_iadd hx hb dL_law_1201 ?_
    refine x_sld K X hS h2 dL_law_1202 ?_
    have X := X.perm wL_swap
    have kx := m_X8_breaksIn l D ca am n2 M (wC ar ag ca P G ++ [(ao, oc ca O)]) a1 a2 b M' h8 H.size
    refine x_callVw K hA X kx hl.1 2 q1799 q1800 q1801 q97 q1802 hv_X8_breaksIn ⟨⟨(Nat.le_of_ble_eq_true rfl), (Nat.le_of_ble_eq_true rfl)⟩, rfl, rfl⟩ pl_modo rfl rfl rfl rfl (Nat.le_of_ble_eq_true rfl) dL_law_1203 ⟨(by show cells + 1 + 0 ≤ 601024; omega), (by show slots + 6 + 0 ≤ 7293034; omega)⟩ rfl (fun H locs X => ?_)
    have X := X.perm wL_swap.symm
    refine lv_istore (lv' := [(6, .int b), (5, .int 2), (0, .ref b0), (1, .ref (ag 0)), (2, .ref (am 0)), (3, .ref ao), (4, .int I)]) hx hb dL_law_1206 hl (by decide) rfl (fun ls hl => ?_)
    refine lv_aload_n hx hb dL_law_1208 rfl (lv_at hl 4 rfl) ?_
    have X := X.perm wL_swap
    have kx := m_X8_thrown l D ca am M' (wC ar ag ca P G ++ [(ao, oc ca O)]) 2 hT H.size
    refine x_callVw K hA X kx hl.1 0 q1380 q1381 q1382 q97 q1383 hv_X8_thrown ⟨⟨(Nat.le_of_ble_eq_true rfl), (Nat.le_of_ble_eq_true rfl)⟩, rfl, rfl⟩ pl_modo rfl rfl rfl rfl (Nat.le_of_ble_eq_true rfl) dL_law_1209 ⟨(by show cells + 1 + 0 ≤ 601024; omega), (by show slots + 6 + 0 ≤ 7293034; omega)⟩ rfl (fun H locs X => ?_)
    have X := X.perm wL_swap.symm
    refine lv_iload hx hb dL_law_1212 (lv_at hl 1 rfl) ?_
    refine lv_icmp_eq (tgt := 1219) hx hb dL_law_1214 (by decide) (fun _ => ?_) (fun c1 => absurd rfl c1)
    refine lv_iload hx hb dL_law_1219 (lv_at hl 1 rfl) ?_
    refine lv_if_ne (tgt := 1236) hx hb dL_law_1221 (by decide) (fun _ => ?_) (fun c1 => absurd c1 (by decide))
    refine lv_goto (tgt := 2302) hx hb dL_law_1236 (by decide) ?_
    exact kk P G M' O H locs ls hI X (lv_sub hl [2, 3, 4, 5, 6] rfl)
-- case 19
def OK_bestSlant (Inv : RowsS → GlbS → RowS → Prop) (P : RowsS) (G : GlbS) (M : RowS) (a1 : Int32) : Prop :=
  (∃ (n : Nat) (res : Int32) (P' : RowsS) (n2 : Nat) (b : Int32) (M' : RowS), f_X7_bestSlant n P G a1 = some (res, P') ∧ f_X8_bestSlant n2 M a1 = some (b, M') ∧ f_X8_thrown M' = 0 ∧ res.toInt64 = b.toInt64 ∧ Inv P' G M') ∨
  (∃ (n2 : Nat) (b : Int32) (M' : RowS), t_X7_bestSlant P G a1 = some 1 ∧ f_X8_bestSlant n2 M a1 = some (b, M') ∧ f_X8_thrown M' = 1 ∧ Inv P G M')
set_option maxRecDepth 100000 in
set_option maxHeartbeats 4000000 in
theorem k_bestSlant {p : Program} {l : Launch} {e : Env} {s : State} {m : MethodId} {args : Array Value} {below : List Frame} {meth : Method} {c : Code} {Q : State → Prop} {D : va_G} {A : Nat → Prop} {ar : Nat → Nat → Nat} {ag : Nat → Nat} {ca : Nat → ClassId} {am : Nat → Nat} {ao b0 L : Nat} {xs : Nat → Int32} {I : Int32} {Inv : RowsS → GlbS → RowS → Prop} {cells slots : Nat} {z : ZG} (K : MC D ca p s m args meth c cL_law 9 RL) (hl0 : l.stackTraces = false) (hA : ∀ q, s.heap.size ≤ q → A q) (hZ : ZF z A s s.heap) (hS : va_X b0 L xs s s.heap ∧ b0 < s.heap.size ∧ ¬ A b0) (hroom : cells + 1 ≤ 601024 ∧ slots + 6 ≤ 7293034) {a1 : Int32} (h1 : vp_in (I + 1) L ∧ xs (I + 1).toNatClampNeg = a1) {P : RowsS} {G : GlbS} {M : RowS} {O : Nat → Int64} {H : Heap} {locs : List Loc} {ls : Array Slot} (hok : OK_bestSlant Inv P G M a1) (X : RX D A (wL ar ag ca am P G M ao O) s.heap H locs) (hl : lv_has ls 9 [(0, .ref b0), (1, .ref (ag 0)), (2, .ref (am 0)), (3, .ref ao), (4, .int I)]) (kk : LwAt p l e s m args below meth c Q D A ar ag ca am ao b0 I Inv (cells + 1) (slots + 6) 2302) : W p l e room_1 s m args below meth c H locs cells slots Q (F0 m 1239 ls []) := by
  have hx := K.1
  have hb := K.2.1
  unfold OK_bestSlant at hok
  rcases hok with hok | hok
  · skip
    obtain ⟨n, res, P', n2, b, M', h7, h8, hT, hv, hI⟩ := hok
    refine lv_aload_n hx hb dL_law_1239 rfl (lv_at hl 1 rfl) ?_
    refine lv_aload_n hx hb dL_law_1240 rfl (lv_at hl 0 rfl) ?_
    refine lv_iload hx hb dL_law_1241 (lv_at hl 4 rfl) ?_
    refine lv_iconst (v := 1) hx hb dL_law_1243 (by decide) ?_
    refine lv_iadd hx hb dL_law_1244 ?_
    refine x_sld K X hS h1 dL_law_1245 ?_
    refine lv_aload_n hx hb dL_law_1246 rfl (lv_at hl 3 rfl) ?_
    have kx := n_L_bestSlant l D ca ar ag z n P G (wM am ca M) ao O a1 res P' h7 H.size
    refine x_callSW K hA hZ X kx hl.1 3 q966 q967 q86 q968 hs_L_bestSlant ⟨⟨(Nat.le_of_ble_eq_true rfl), (Nat.le_of_ble_eq_true rfl)⟩, rfl, rfl⟩ rfl rfl (Nat.le_of_ble_eq_true rfl) dL_law_1247 ⟨hroom.1, hroom.2⟩ rfl (fun H locs X => ?_)
    refine lv_istore (lv' := [(5, .int 0), (0, .ref b0), (1, .ref (ag 0)), (2, .ref (am 0)), (3, .ref ao), (4, .int I)]) hx hb dL_law_1250 hl (by decide) rfl (fun ls hl => ?_)
    refine lv_aload_n hx hb dL_law_1252 rfl (lv_at hl 3 rfl) ?_
    refine lv_aload_n hx hb dL_law_1253 rfl (lv_at hl 1 rfl) ?_
    refine lv_iload hx hb dL_law_1254 (lv_at hl 5 rfl) ?_
    refine lv_iconst (v := 1) hx hb dL_law_1256 (by decide) ?_
    refine lv_iadd hx hb dL_law_1257 ?_
    refine x_sld K X hS h1 dL_law_1258 ?_
    have X := X.perm wL_swap
    have kx := m_X8_bestSlant l D ca am n2 M (wC ar ag ca P' G ++ [(ao, oc ca (va_up O 0 res.toInt64))]) a1 b M' h8 H.size
    refine x_callVw K hA X kx hl.1 1 q1808 q1809 q1810 q97 q1811 hv_X8_bestSlant ⟨⟨(Nat.le_of_ble_eq_true rfl), (Nat.le_of_ble_eq_true rfl)⟩, rfl, rfl⟩ pl_modo rfl rfl rfl rfl (Nat.le_of_ble_eq_true rfl) dL_law_1259 ⟨(by show cells + 1 + 0 ≤ 601024; omega), (by show slots + 6 + 0 ≤ 7293034; omega)⟩ rfl (fun H locs X => ?_)
    have X := X.perm wL_swap.symm
    refine lv_istore (lv' := [(6, .int b), (5, .int 0), (0, .ref b0), (1, .ref (ag 0)), (2, .ref (am 0)), (3, .ref ao), (4, .int I)]) hx hb dL_law_1262 hl (by decide) rfl (fun ls hl => ?_)
    refine lv_aload_n hx hb dL_law_1264 rfl (lv_at hl 4 rfl) ?_
    have X := X.perm wL_swap
    have kx := m_X8_thrown l D ca am M' (wC ar ag ca P' G ++ [(ao, oc ca (va_up O 0 res.toInt64))]) 0 hT H.size
    refine x_callVw K hA X kx hl.1 0 q1380 q1381 q1382 q97 q1383 hv_X8_thrown ⟨⟨(Nat.le_of_ble_eq_true rfl), (Nat.le_of_ble_eq_true rfl)⟩, rfl, rfl⟩ pl_modo rfl rfl rfl rfl (Nat.le_of_ble_eq_true rfl) dL_law_1265 ⟨(by show cells + 1 + 0 ≤ 601024; omega), (by show slots + 6 + 0 ≤ 7293034; omega)⟩ rfl (fun H locs X => ?_)
    have X := X.perm wL_swap.symm
    refine lv_iload hx hb dL_law_1268 (lv_at hl 1 rfl) ?_
    refine lv_icmp_eq (tgt := 1275) hx hb dL_law_1270 (by decide) (fun _ => ?_) (fun c1 => absurd rfl c1)
    refine lv_iload hx hb dL_law_1275 (lv_at hl 1 rfl) ?_
    refine lv_if_ne (tgt := 1292) hx hb dL_law_1277 (by decide) (fun c1 => absurd rfl c1) (fun _ => ?_)
    refine lv_aload_n hx hb dL_law_1280 rfl (lv_at hl 5 rfl) ?_
    refine lv_iconst (v := 0) hx hb dL_law_1281 (by decide) ?_
    refine x_lald K X (241 + (wM am ca M').length) ctor_atw (vp_in_iff.mpr (by decide)) dL_law_1282 ?_
    refine lv_iload hx hb dL_law_1283 (lv_at hl 0 rfl) ?_
    refine lv_i2l hx hb dL_law_1285 rfl ?_
    refine w_beq (tgt := 1292) K dL_law_1286 dL_law_1287 (by decide) (fun _ => ?_) (fun c1 => absurd (by rw [show (0 : Int32).toNatClampNeg = 0 from rfl, va_up_self]; exact hv) c1)
    refine lv_goto (tgt := 2302) hx hb dL_law_1292 (by decide) ?_
    exact kk P' G M' (va_up O 0 res.toInt64) H locs ls hI X (lv_sub hl [2, 3, 4, 5, 6] rfl)
  · skip
    obtain ⟨n2, b, M', ht, h8, hT, hI⟩ := hok
    refine lv_aload_n hx hb dL_law_1239 rfl (lv_at hl 1 rfl) ?_
    refine lv_aload_n hx hb dL_law_1240 rfl (lv_at hl 0 rfl) ?_
    refine lv_iload hx hb dL_law_1241 (lv_at hl 4 rfl) ?_
    refine lv_iconst (v := 1) hx hb dL_law_1243 (by decide) ?_
    refine lv_iadd hx hb dL_law_1244 ?_
    refine x_sld K X hS h1 dL_law_1245 ?_
    refine lv_aload_n hx hb dL_law_1246 rfl (lv_at hl 3 rfl) ?_
    have kx := e1_L_bestSlant l D ca ar ag z hl0 P G (wM am ca M) ao O a1 ht H.size
    refine x_callSW K hA hZ X kx hl.1 3 q966 q967 q86 q968 hs_L_bestSlant ⟨⟨(Nat.le_of_ble_eq_true rfl), (Nat.le_of_ble_eq_true rfl)⟩, rfl, rfl⟩ rfl rfl (Nat.le_of_ble_eq_true rfl) dL_law_1247 ⟨hroom.1, hroom.2⟩ rfl (fun H locs X => ?_)
    refine lv_istore (lv' := [(5, .int 1), (0, .ref b0), (1, .ref (ag 0)), (2, .ref (am 0)), (3, .ref ao), (4, .int I)]) hx hb dL_law_1250 hl (by decide) rfl (fun ls hl => ?_)
    refine lv_aload_n hx hb dL_law_1252 rfl (lv_at hl 3 rfl) ?_
    refine lv_aload_n hx hb dL_law_1253 rfl (lv_at hl 1 rfl) ?_
    refine lv_iload hx hb dL_law_1254 (lv_at hl 5 rfl) ?_
    refine lv_iconst (v := 1) hx hb dL_law_1256 (by decide) ?_
    refine lv_iadd hx hb dL_law_1257 ?_
    refine x_sld K X hS h1 dL_law_1258 ?_
    have X := X.perm wL_swap
    have kx := m_X8_bestSlant l D ca am n2 M (wC ar ag ca P G ++ [(ao, oc ca O)]) a1 b M' h8 H.size
    refine x_callVw K hA X kx hl.1 1 q1808 q1809 q1810 q97 q1811 hv_X8_bestSlant ⟨⟨(Nat.le_of_ble_eq_true rfl), (Nat.le_of_ble_eq_true rfl)⟩, rfl, rfl⟩ pl_modo rfl rfl rfl rfl (Nat.le_of_ble_eq_true rfl) dL_law_1259 ⟨(by show cells + 1 + 0 ≤ 601024; omega), (by show slots + 6 + 0 ≤ 7293034; omega)⟩ rfl (fun H locs X => ?_)
    have X := X.perm wL_swap.symm
    refine lv_istore (lv' := [(6, .int b), (5, .int 1), (0, .ref b0), (1, .ref (ag 0)), (2, .ref (am 0)), (3, .ref ao), (4, .int I)]) hx hb dL_law_1262 hl (by decide) rfl (fun ls hl => ?_)
    refine lv_aload_n hx hb dL_law_1264 rfl (lv_at hl 4 rfl) ?_
    have X := X.perm wL_swap
    have kx := m_X8_thrown l D ca am M' (wC ar ag ca P G ++ [(ao, oc ca O)]) 1 hT H.size
    refine x_callVw K hA X kx hl.1 0 q1380 q1381 q1382 q97 q1383 hv_X8_thrown ⟨⟨(Nat.le_of_ble_eq_true rfl), (Nat.le_of_ble_eq_true rfl)⟩, rfl, rfl⟩ pl_modo rfl rfl rfl rfl (Nat.le_of_ble_eq_true rfl) dL_law_1265 ⟨(by show cells + 1 + 0 ≤ 601024; omega), (by show slots + 6 + 0 ≤ 7293034; omega)⟩ rfl (fun H locs X => ?_)
    have X := X.perm wL_swap.symm
    refine lv_iload hx hb dL_law_1268 (lv_at hl 1 rfl) ?_
    refine lv_icmp_eq (tgt := 1275) hx hb dL_law_1270 (by decide) (fun _ => ?_) (fun c1 => absurd rfl c1)
    refine lv_iload hx hb dL_law_1275 (lv_at hl 1 rfl) ?_
    refine lv_if_ne (tgt := 1292) hx hb dL_law_1277 (by decide) (fun _ => ?_) (fun c1 => absurd c1 (by decide))
    refine lv_goto (tgt := 2302) hx hb dL_law_1292 (by decide) ?_
    exact kk P G M' O H locs ls hI X (lv_sub hl [2, 3, 4, 5, 6] rfl)
-- case 20
def OK_lostWith (Inv : RowsS → GlbS → RowS → Prop) (P : RowsS) (G : GlbS) (M : RowS) (a1 : Int32) : Prop :=
  (∃ (n : Nat) (res : Int32) (P' : RowsS) (n2 : Nat) (b : Int32) (M' : RowS), f_X7_lostWith n P G a1 = some (res, P') ∧ f_X8_lostWith n2 M a1 = some (b, M') ∧ f_X8_thrown M' = 0 ∧ res.toInt64 = b.toInt64 ∧ Inv P' G M') ∨
  (∃ (n2 : Nat) (b : Int32) (M' : RowS), t_X7_lostWith P G a1 = some 2 ∧ f_X8_lostWith n2 M a1 = some (b, M') ∧ f_X8_thrown M' = 1 ∧ Inv P G M')
set_option maxRecDepth 100000 in
set_option maxHeartbeats 4000000 in
theorem k_lostWith {p : Program} {l : Launch} {e : Env} {s : State} {m : MethodId} {args : Array Value} {below : List Frame} {meth : Method} {c : Code} {Q : State → Prop} {D : va_G} {A : Nat → Prop} {ar : Nat → Nat → Nat} {ag : Nat → Nat} {ca : Nat → ClassId} {am : Nat → Nat} {ao b0 L : Nat} {xs : Nat → Int32} {I : Int32} {Inv : RowsS → GlbS → RowS → Prop} {cells slots : Nat} {z : ZG} (K : MC D ca p s m args meth c cL_law 9 RL) (hl0 : l.stackTraces = false) (hA : ∀ q, s.heap.size ≤ q → A q) (hZ : ZF z A s s.heap) (hS : va_X b0 L xs s s.heap ∧ b0 < s.heap.size ∧ ¬ A b0) (hroom : cells + 1 ≤ 601024 ∧ slots + 6 ≤ 7293034) {a1 : Int32} (h1 : vp_in (I + 1) L ∧ xs (I + 1).toNatClampNeg = a1) {P : RowsS} {G : GlbS} {M : RowS} {O : Nat → Int64} {H : Heap} {locs : List Loc} {ls : Array Slot} (hok : OK_lostWith Inv P G M a1) (X : RX D A (wL ar ag ca am P G M ao O) s.heap H locs) (hl : lv_has ls 9 [(0, .ref b0), (1, .ref (ag 0)), (2, .ref (am 0)), (3, .ref ao), (4, .int I)]) (kk : LwAt p l e s m args below meth c Q D A ar ag ca am ao b0 I Inv (cells + 1) (slots + 6) 2302) : W p l e room_1 s m args below meth c H locs cells slots Q (F0 m 1295 ls []) := by
  have hx := K.1
  have hb := K.2.1
  unfold OK_lostWith at hok
  rcases hok with hok | hok
  · skip
    obtain ⟨n, res, P', n2, b, M', h7, h8, hT, hv, hI⟩ := hok
    refine lv_aload_n hx hb dL_law_1295 rfl (lv_at hl 1 rfl) ?_
    refine lv_aload_n hx hb dL_law_1296 rfl (lv_at hl 0 rfl) ?_
    refine lv_iload hx hb dL_law_1297 (lv_at hl 4 rfl) ?_
    refine lv_iconst (v := 1) hx hb dL_law_1299 (by decide) ?_
    refine lv_iadd hx hb dL_law_1300 ?_
    refine x_sld K X hS h1 dL_law_1301 ?_
    refine lv_aload_n hx hb dL_law_1302 rfl (lv_at hl 3 rfl) ?_
    have kx := n_L_lostWith l D ca ar ag z n P G (wM am ca M) ao O a1 res P' h7 H.size
    refine x_callSW K hA hZ X kx hl.1 3 q973 q974 q86 q975 hs_L_lostWith ⟨⟨(Nat.le_of_ble_eq_true rfl), (Nat.le_of_ble_eq_true rfl)⟩, rfl, rfl⟩ rfl rfl (Nat.le_of_ble_eq_true rfl) dL_law_1303 ⟨hroom.1, hroom.2⟩ rfl (fun H locs X => ?_)
    refine lv_istore (lv' := [(5, .int 0), (0, .ref b0), (1, .ref (ag 0)), (2, .ref (am 0)), (3, .ref ao), (4, .int I)]) hx hb dL_law_1306 hl (by decide) rfl (fun ls hl => ?_)
    refine lv_aload_n hx hb dL_law_1308 rfl (lv_at hl 3 rfl) ?_
    refine lv_aload_n hx hb dL_law_1309 rfl (lv_at hl 1 rfl) ?_
    refine lv_iload hx hb dL_law_1310 (lv_at hl 5 rfl) ?_
    refine lv_iconst (v := 1) hx hb dL_law_1312 (by decide) ?_
    refine lv_iadd hx hb dL_law_1313 ?_
    refine x_sld K X hS h1 dL_law_1314 ?_
    have X := X.perm wL_swap
    have kx := m_X8_lostWith l D ca am n2 M (wC ar ag ca P' G ++ [(ao, oc ca (va_up O 0 res.toInt64))]) a1 b M' h8 H.size
    refine x_callVw K hA X kx hl.1 1 q1812 q1813 q1814 q97 q1815 hv_X8_lostWith ⟨⟨(Nat.le_of_ble_eq_true rfl), (Nat.le_of_ble_eq_true rfl)⟩, rfl, rfl⟩ pl_modo rfl rfl rfl rfl (Nat.le_of_ble_eq_true rfl) dL_law_1315 ⟨(by show cells + 1 + 0 ≤ 601024; omega), (by show slots + 6 + 0 ≤ 7293034; omega)⟩ rfl (fun H locs X => ?_)
    have X := X.perm wL_swap.symm
    refine lv_istore (lv' := [(6, .int b), (5, .int 0), (0, .ref b0), (1, .ref (ag 0)), (2, .ref (am 0)), (3, .ref ao), (4, .int I)]) hx hb dL_law_1318 hl (by decide) rfl (fun ls hl => ?_)
    refine lv_aload_n hx hb dL_law_1320 rfl (lv_at hl 4 rfl) ?_
    have X := X.perm wL_swap
    have kx := m_X8_thrown l D ca am M' (wC ar ag ca P' G ++ [(ao, oc ca (va_up O 0 res.toInt64))]) 0 hT H.size
    refine x_callVw K hA X kx hl.1 0 q1380 q1381 q1382 q97 q1383 hv_X8_thrown ⟨⟨(Nat.le_of_ble_eq_true rfl), (Nat.le_of_ble_eq_true rfl)⟩, rfl, rfl⟩ pl_modo rfl rfl rfl rfl (Nat.le_of_ble_eq_true rfl) dL_law_1321 ⟨(by show cells + 1 + 0 ≤ 601024; omega), (by show slots + 6 + 0 ≤ 7293034; omega)⟩ rfl (fun H locs X => ?_)
    have X := X.perm wL_swap.symm
    refine lv_iload hx hb dL_law_1324 (lv_at hl 1 rfl) ?_
    refine lv_icmp_eq (tgt := 1331) hx hb dL_law_1326 (by decide) (fun _ => ?_) (fun c1 => absurd rfl c1)
    refine lv_iload hx hb dL_law_1331 (lv_at hl 1 rfl) ?_
    refine lv_if_ne (tgt := 1348) hx hb dL_law_1333 (by decide) (fun c1 => absurd rfl c1) (fun _ => ?_)
    refine lv_aload_n hx hb dL_law_1336 rfl (lv_at hl 5 rfl) ?_
    refine lv_iconst (v := 0) hx hb dL_law_1337 (by decide) ?_
    refine x_lald K X (241 + (wM am ca M').length) ctor_atw (vp_in_iff.mpr (by decide)) dL_law_1338 ?_
    refine lv_iload hx hb dL_law_1339 (lv_at hl 0 rfl) ?_
    refine lv_i2l hx hb dL_law_1341 rfl ?_
    refine w_beq (tgt := 1348) K dL_law_1342 dL_law_1343 (by decide) (fun _ => ?_) (fun c1 => absurd (by rw [show (0 : Int32).toNatClampNeg = 0 from rfl, va_up_self]; exact hv) c1)
    refine lv_goto (tgt := 2302) hx hb dL_law_1348 (by decide) ?_
    exact kk P' G M' (va_up O 0 res.toInt64) H locs ls hI X (lv_sub hl [2, 3, 4, 5, 6] rfl)
  · skip
    obtain ⟨n2, b, M', ht, h8, hT, hI⟩ := hok
    refine lv_aload_n hx hb dL_law_1295 rfl (lv_at hl 1 rfl) ?_
    refine lv_aload_n hx hb dL_law_1296 rfl (lv_at hl 0 rfl) ?_
    refine lv_iload hx hb dL_law_1297 (lv_at hl 4 rfl) ?_
    refine lv_iconst (v := 1) hx hb dL_law_1299 (by decide) ?_
    refine lv_iadd hx hb dL_law_1300 ?_
    refine x_sld K X hS h1 dL_law_1301 ?_
    refine lv_aload_n hx hb dL_law_1302 rfl (lv_at hl 3 rfl) ?_
    have kx := e2_L_lostWith l D ca ar ag z hl0 P G (wM am ca M) ao O a1 ht H.size
    refine x_callSW K hA hZ X kx hl.1 3 q973 q974 q86 q975 hs_L_lostWith ⟨⟨(Nat.le_of_ble_eq_true rfl), (Nat.le_of_ble_eq_true rfl)⟩, rfl, rfl⟩ rfl rfl (Nat.le_of_ble_eq_true rfl) dL_law_1303 ⟨hroom.1, hroom.2⟩ rfl (fun H locs X => ?_)
    refine lv_istore (lv' := [(5, .int 1), (0, .ref b0), (1, .ref (ag 0)), (2, .ref (am 0)), (3, .ref ao), (4, .int I)]) hx hb dL_law_1306 hl (by decide) rfl (fun ls hl => ?_)
    refine lv_aload_n hx hb dL_law_1308 rfl (lv_at hl 3 rfl) ?_
    refine lv_aload_n hx hb dL_law_1309 rfl (lv_at hl 1 rfl) ?_
    refine lv_iload hx hb dL_law_1310 (lv_at hl 5 rfl) ?_
    refine lv_iconst (v := 1) hx hb dL_law_1312 (by decide) ?_
    refine lv_iadd hx hb dL_law_1313 ?_
    refine x_sld K X hS h1 dL_law_1314 ?_
    have X := X.perm wL_swap
    have kx := m_X8_lostWith l D ca am n2 M (wC ar ag ca P G ++ [(ao, oc ca O)]) a1 b M' h8 H.size
    refine x_callVw K hA X kx hl.1 1 q1812 q1813 q1814 q97 q1815 hv_X8_lostWith ⟨⟨(Nat.le_of_ble_eq_true rfl), (Nat.le_of_ble_eq_true rfl)⟩, rfl, rfl⟩ pl_modo rfl rfl rfl rfl (Nat.le_of_ble_eq_true rfl) dL_law_1315 ⟨(by show cells + 1 + 0 ≤ 601024; omega), (by show slots + 6 + 0 ≤ 7293034; omega)⟩ rfl (fun H locs X => ?_)
    have X := X.perm wL_swap.symm
    refine lv_istore (lv' := [(6, .int b), (5, .int 1), (0, .ref b0), (1, .ref (ag 0)), (2, .ref (am 0)), (3, .ref ao), (4, .int I)]) hx hb dL_law_1318 hl (by decide) rfl (fun ls hl => ?_)
    refine lv_aload_n hx hb dL_law_1320 rfl (lv_at hl 4 rfl) ?_
    have X := X.perm wL_swap
    have kx := m_X8_thrown l D ca am M' (wC ar ag ca P G ++ [(ao, oc ca O)]) 1 hT H.size
    refine x_callVw K hA X kx hl.1 0 q1380 q1381 q1382 q97 q1383 hv_X8_thrown ⟨⟨(Nat.le_of_ble_eq_true rfl), (Nat.le_of_ble_eq_true rfl)⟩, rfl, rfl⟩ pl_modo rfl rfl rfl rfl (Nat.le_of_ble_eq_true rfl) dL_law_1321 ⟨(by show cells + 1 + 0 ≤ 601024; omega), (by show slots + 6 + 0 ≤ 7293034; omega)⟩ rfl (fun H locs X => ?_)
    have X := X.perm wL_swap.symm
    refine lv_iload hx hb dL_law_1324 (lv_at hl 1 rfl) ?_
    refine lv_icmp_eq (tgt := 1331) hx hb dL_law_1326 (by decide) (fun _ => ?_) (fun c1 => absurd rfl c1)
    refine lv_iload hx hb dL_law_1331 (lv_at hl 1 rfl) ?_
    refine lv_if_ne (tgt := 1348) hx hb dL_law_1333 (by decide) (fun _ => ?_) (fun c1 => absurd c1 (by decide))
    refine lv_goto (tgt := 2302) hx hb dL_law_1348 (by decide) ?_
    exact kk P G M' O H locs ls hI X (lv_sub hl [2, 3, 4, 5, 6] rfl)
-- case 21
def OK_meanReading (Inv : RowsS → GlbS → RowS → Prop) (P : RowsS) (G : GlbS) (M : RowS) : Prop :=
  (∃ (n : Nat) (res : UInt64) (n2 : Nat) (b : UInt64) (M' : RowS), f_X7_meanReading n P G = some res ∧ f_X8_meanReading n2 M = some (b, M') ∧ Op.cmpValue (FP.dcmp res b) .l = 0 ∧ Inv P G M')
set_option maxRecDepth 100000 in
set_option maxHeartbeats 4000000 in
theorem k_meanReading {p : Program} {l : Launch} {e : Env} {s : State} {m : MethodId} {args : Array Value} {below : List Frame} {meth : Method} {c : Code} {Q : State → Prop} {D : va_G} {A : Nat → Prop} {ar : Nat → Nat → Nat} {ag : Nat → Nat} {ca : Nat → ClassId} {am : Nat → Nat} {ao b0 L : Nat} {xs : Nat → Int32} {I : Int32} {Inv : RowsS → GlbS → RowS → Prop} {cells slots : Nat} {z : ZG} (K : MC D ca p s m args meth c cL_law 9 RL) (hl0 : l.stackTraces = false) (hA : ∀ q, s.heap.size ≤ q → A q) (hZ : ZF z A s s.heap) (hS : va_X b0 L xs s s.heap ∧ b0 < s.heap.size ∧ ¬ A b0) (hroom : cells + 1 ≤ 601024 ∧ slots + 6 ≤ 7293034) {P : RowsS} {G : GlbS} {M : RowS} {O : Nat → Int64} {H : Heap} {locs : List Loc} {ls : Array Slot} (hok : OK_meanReading Inv P G M) (X : RX D A (wL ar ag ca am P G M ao O) s.heap H locs) (hl : lv_has ls 9 [(0, .ref b0), (1, .ref (ag 0)), (2, .ref (am 0)), (3, .ref ao), (4, .int I)]) (kk : LwAt p l e s m args below meth c Q D A ar ag ca am ao b0 I Inv (cells + 1) (slots + 6) 2302) : W p l e room_1 s m args below meth c H locs cells slots Q (F0 m 1351 ls []) := by
  have hx := K.1
  have hb := K.2.1
  obtain ⟨n, res, n2, b, M', h7, h8, hv, hI⟩ := hok
  refine lv_aload_n hx hb dL_law_1351 rfl (lv_at hl 1 rfl) ?_
  have kx := m_X7_meanReading l D ca ar ag n P G (wM am ca M ++ [(ao, oc ca O)]) res h7 H.size
  refine x_callVw K hA X kx hl.1 0 q443 q444 q445 q87 q446 hv_X7_meanReading ⟨⟨(Nat.le_of_ble_eq_true rfl), (Nat.le_of_ble_eq_true rfl)⟩, rfl, rfl⟩ (pl_glb (k := 0) (by decide)) rfl rfl rfl rfl (Nat.le_of_ble_eq_true rfl) dL_law_1352 ⟨(by show cells + 0 ≤ 601024; omega), (by show slots + 0 ≤ 7293034; omega)⟩ rfl (fun H locs X => ?_)
  refine lv_dstore (lv' := [(5, .double res), (0, .ref b0), (1, .ref (ag 0)), (2, .ref (am 0)), (3, .ref ao), (4, .int I)]) hx hb dL_law_1355 hl (by decide) rfl (fun ls hl => ?_)
  refine lv_aload_n hx hb dL_law_1357 rfl (lv_at hl 3 rfl) ?_
  have X := X.perm wL_swap
  have kx := m_X8_meanReading l D ca am n2 M (wC ar ag ca P G ++ [(ao, oc ca O)]) b M' h8 H.size
  refine x_callVw K hA X kx hl.1 0 q1816 q1817 q1818 q97 q1819 hv_X8_meanReading ⟨⟨(Nat.le_of_ble_eq_true rfl), (Nat.le_of_ble_eq_true rfl)⟩, rfl, rfl⟩ pl_modo rfl rfl rfl rfl (Nat.le_of_ble_eq_true rfl) dL_law_1358 ⟨(by show cells + 0 ≤ 601024; omega), (by show slots + 0 ≤ 7293034; omega)⟩ rfl (fun H locs X => ?_)
  have X := X.perm wL_swap.symm
  refine lv_dstore (lv' := [(7, .double b), (5, .double res), (0, .ref b0), (1, .ref (ag 0)), (2, .ref (am 0)), (3, .ref ao), (4, .int I)]) hx hb dL_law_1361 hl (by decide) rfl (fun ls hl => ?_)
  refine lv_dload hx hb dL_law_1363 (lv_at hl 1 rfl) ?_
  refine lv_dload hx hb dL_law_1365 (lv_at hl 0 rfl) ?_
  refine lv_dcmp hx hb dL_law_1367 ?_
  refine lv_if_eq (tgt := 1389) hx hb dL_law_1368 (by decide) (fun _ => ?_) (fun c1 => absurd hv c1)
  refine lv_goto (tgt := 2302) hx hb dL_law_1389 (by decide) ?_
  exact w_widen (Nat.le_add_right cells 1) (Nat.le_add_right slots 6) (kk P G M' O H locs ls hI X (lv_sub hl [2, 3, 4, 5, 6] rfl))
-- case 22
def OK_wholeShare (Inv : RowsS → GlbS → RowS → Prop) (P : RowsS) (G : GlbS) (M : RowS) : Prop :=
  (∃ (n : Nat) (res : UInt32) (n2 : Nat) (b : UInt32) (M' : RowS), f_X7_wholeShare n P G = some res ∧ f_X8_wholeShare n2 M = some (b, M') ∧ vf_n64 (FP.f2d res) ∧ vf_n64 (FP.f2d b) ∧ Op.cmpValue (FP.dcmp (FP.f2d res) (FP.f2d b)) .l = 0 ∧ Inv P G M')
set_option maxRecDepth 100000 in
set_option maxHeartbeats 4000000 in
theorem k_wholeShare {p : Program} {l : Launch} {e : Env} {s : State} {m : MethodId} {args : Array Value} {below : List Frame} {meth : Method} {c : Code} {Q : State → Prop} {D : va_G} {A : Nat → Prop} {ar : Nat → Nat → Nat} {ag : Nat → Nat} {ca : Nat → ClassId} {am : Nat → Nat} {ao b0 L : Nat} {xs : Nat → Int32} {I : Int32} {Inv : RowsS → GlbS → RowS → Prop} {cells slots : Nat} {z : ZG} (K : MC D ca p s m args meth c cL_law 9 RL) (hl0 : l.stackTraces = false) (hA : ∀ q, s.heap.size ≤ q → A q) (hZ : ZF z A s s.heap) (hS : va_X b0 L xs s s.heap ∧ b0 < s.heap.size ∧ ¬ A b0) (hroom : cells + 1 ≤ 601024 ∧ slots + 6 ≤ 7293034) {P : RowsS} {G : GlbS} {M : RowS} {O : Nat → Int64} {H : Heap} {locs : List Loc} {ls : Array Slot} (hok : OK_wholeShare Inv P G M) (X : RX D A (wL ar ag ca am P G M ao O) s.heap H locs) (hl : lv_has ls 9 [(0, .ref b0), (1, .ref (ag 0)), (2, .ref (am 0)), (3, .ref ao), (4, .int I)]) (kk : LwAt p l e s m args below meth c Q D A ar ag ca am ao b0 I Inv (cells + 1) (slots + 6) 2302) : W p l e room_1 s m args below meth c H locs cells slots Q (F0 m 1392 ls []) := by
  have hx := K.1
  have hb := K.2.1
  obtain ⟨n, res, n2, b, M', h7, h8, hf1, hf2, hv, hI⟩ := hok
  refine lv_aload_n hx hb dL_law_1392 rfl (lv_at hl 1 rfl) ?_
  have kx := m_X7_wholeShare l D ca ar ag n P G (wM am ca M ++ [(ao, oc ca O)]) res h7 H.size
  refine x_callVw K hA X kx hl.1 0 q451 q452 q453 q87 q454 hv_X7_wholeShare ⟨⟨(Nat.le_of_ble_eq_true rfl), (Nat.le_of_ble_eq_true rfl)⟩, rfl, rfl⟩ (pl_glb (k := 0) (by decide)) rfl rfl rfl rfl (Nat.le_of_ble_eq_true rfl) dL_law_1393 ⟨(by show cells + 0 ≤ 601024; omega), (by show slots + 0 ≤ 7293034; omega)⟩ rfl (fun H locs X => ?_)
  refine lv_f2d hx hb dL_law_1396 hf1 ?_
  refine lv_dstore (lv' := [(5, .double (FP.f2d res)), (0, .ref b0), (1, .ref (ag 0)), (2, .ref (am 0)), (3, .ref ao), (4, .int I)]) hx hb dL_law_1397 hl (by decide) rfl (fun ls hl => ?_)
  refine lv_aload_n hx hb dL_law_1399 rfl (lv_at hl 3 rfl) ?_
  have X := X.perm wL_swap
  have kx := m_X8_wholeShare l D ca am n2 M (wC ar ag ca P G ++ [(ao, oc ca O)]) b M' h8 H.size
  refine x_callVw K hA X kx hl.1 0 q1820 q1821 q1822 q97 q1823 hv_X8_wholeShare ⟨⟨(Nat.le_of_ble_eq_true rfl), (Nat.le_of_ble_eq_true rfl)⟩, rfl, rfl⟩ pl_modo rfl rfl rfl rfl (Nat.le_of_ble_eq_true rfl) dL_law_1400 ⟨(by show cells + 0 ≤ 601024; omega), (by show slots + 0 ≤ 7293034; omega)⟩ rfl (fun H locs X => ?_)
  have X := X.perm wL_swap.symm
  refine lv_f2d hx hb dL_law_1403 hf2 ?_
  refine lv_dstore (lv' := [(7, .double (FP.f2d b)), (5, .double (FP.f2d res)), (0, .ref b0), (1, .ref (ag 0)), (2, .ref (am 0)), (3, .ref ao), (4, .int I)]) hx hb dL_law_1404 hl (by decide) rfl (fun ls hl => ?_)
  refine lv_dload hx hb dL_law_1406 (lv_at hl 1 rfl) ?_
  refine lv_dload hx hb dL_law_1408 (lv_at hl 0 rfl) ?_
  refine lv_dcmp hx hb dL_law_1410 ?_
  refine lv_if_eq (tgt := 1432) hx hb dL_law_1411 (by decide) (fun _ => ?_) (fun c1 => absurd hv c1)
  refine lv_goto (tgt := 2302) hx hb dL_law_1432 (by decide) ?_
  exact w_widen (Nat.le_add_right cells 1) (Nat.le_add_right slots 6) (kk P G M' O H locs ls hI X (lv_sub hl [2, 3, 4, 5, 6] rfl))
-- case 23
def OK_setPressure (Inv : RowsS → GlbS → RowS → Prop) (P : RowsS) (G : GlbS) (M : RowS) (a1 : Int32) (a2 : Int32) : Prop :=
  (∃ (n : Nat) (res : Int32) (P' : RowsS) (G' : GlbS) (n2 : Nat) (b : Int32) (M' : RowS), f_X7_setPressure n P G a1 a2 = some (res, P', G') ∧ f_X8_setPressure n2 M a1 a2 = some (b, M') ∧ f_X8_thrown M' = 0 ∧ res.toInt64 = b.toInt64 ∧ Inv P' G' M') ∨
  (∃ (n2 : Nat) (b : Int32) (M' : RowS), t_X7_setPressure P G a1 a2 = some 1 ∧ f_X8_setPressure n2 M a1 a2 = some (b, M') ∧ f_X8_thrown M' = 1 ∧ Inv P G M') ∨
  (∃ (n2 : Nat) (b : Int32) (M' : RowS), t_X7_setPressure P G a1 a2 = some 2 ∧ f_X8_setPressure n2 M a1 a2 = some (b, M') ∧ f_X8_thrown M' = 2 ∧ Inv P G M')
set_option maxRecDepth 100000 in
set_option maxHeartbeats 4000000 in
theorem k_setPressure {p : Program} {l : Launch} {e : Env} {s : State} {m : MethodId} {args : Array Value} {below : List Frame} {meth : Method} {c : Code} {Q : State → Prop} {D : va_G} {A : Nat → Prop} {ar : Nat → Nat → Nat} {ag : Nat → Nat} {ca : Nat → ClassId} {am : Nat → Nat} {ao b0 L : Nat} {xs : Nat → Int32} {I : Int32} {Inv : RowsS → GlbS → RowS → Prop} {cells slots : Nat} {z : ZG} (K : MC D ca p s m args meth c cL_law 9 RL) (hl0 : l.stackTraces = false) (hA : ∀ q, s.heap.size ≤ q → A q) (hZ : ZF z A s s.heap) (hS : va_X b0 L xs s s.heap ∧ b0 < s.heap.size ∧ ¬ A b0) (hroom : cells + 1 ≤ 601024 ∧ slots + 6 ≤ 7293034) {a1 : Int32} {a2 : Int32} (h1 : vp_in (I + 1) L ∧ xs (I + 1).toNatClampNeg = a1) (h2 : vp_in (I + 2) L ∧ xs (I + 2).toNatClampNeg = a2) {P : RowsS} {G : GlbS} {M : RowS} {O : Nat → Int64} {H : Heap} {locs : List Loc} {ls : Array Slot} (hok : OK_setPressure Inv P G M a1 a2) (X : RX D A (wL ar ag ca am P G M ao O) s.heap H locs) (hl : lv_has ls 9 [(0, .ref b0), (1, .ref (ag 0)), (2, .ref (am 0)), (3, .ref ao), (4, .int I)]) (kk : LwAt p l e s m args below meth c Q D A ar ag ca am ao b0 I Inv (cells + 1) (slots + 6) 2302) : W p l e room_1 s m args below meth c H locs cells slots Q (F0 m 1435 ls []) := by
  have hx := K.1
  have hb := K.2.1
  unfold OK_setPressure at hok
  rcases hok with hok | hok | hok
  · skip
    obtain ⟨n, res, P', G', n2, b, M', h7, h8, hT, hv, hI⟩ := hok
    refine lv_aload_n hx hb dL_law_1435 rfl (lv_at hl 1 rfl) ?_
    refine lv_aload_n hx hb dL_law_1436 rfl (lv_at hl 0 rfl) ?_
    refine lv_iload hx hb dL_law_1437 (lv_at hl 4 rfl) ?_
    refine lv_iconst (v := 1) hx hb dL_law_1439 (by decide) ?_
    refine lv_iadd hx hb dL_law_1440 ?_
    refine x_sld K X hS h1 dL_law_1441 ?_
    refine lv_aload_n hx hb dL_law_1442 rfl (lv_at hl 0 rfl) ?_
    refine lv_iload hx hb dL_law_1443 (lv_at hl 4 rfl) ?_
    refine lv_iconst (v := 2) hx hb dL_law_1445 (by decide) ?_
    refine lv_iadd hx hb dL_law_1446 ?_
    refine x_sld K X hS h2 dL_law_1447 ?_
    refine lv_aload_n hx hb dL_law_1448 rfl (lv_at hl 3 rfl) ?_
    have kx := n_L_setPressure l D ca ar ag z n P G (wM am ca M) ao O a1 a2 res P' G' h7 H.size
    refine x_callSW K hA hZ X kx hl.1 4 q980 q981 q86 q982 hs_L_setPressure ⟨⟨(Nat.le_of_ble_eq_true rfl), (Nat.le_of_ble_eq_true rfl)⟩, rfl, rfl⟩ rfl rfl (Nat.le_of_ble_eq_true rfl) dL_law_1449 ⟨hroom.1, hroom.2⟩ rfl (fun H locs X => ?_)
    refine lv_istore (lv' := [(5, .int 0), (0, .ref b0), (1, .ref (ag 0)), (2, .ref (am 0)), (3, .ref ao), (4, .int I)]) hx hb dL_law_1452 hl (by decide) rfl (fun ls hl => ?_)
    refine lv_aload_n hx hb dL_law_1454 rfl (lv_at hl 3 rfl) ?_
    refine lv_aload_n hx hb dL_law_1455 rfl (lv_at hl 1 rfl) ?_
    refine lv_iload hx hb dL_law_1456 (lv_at hl 5 rfl) ?_
    refine lv_iconst (v := 1) hx hb dL_law_1458 (by decide) ?_
    refine lv_iadd hx hb dL_law_1459 ?_
    refine x_sld K X hS h1 dL_law_1460 ?_
    refine lv_aload_n hx hb dL_law_1461 rfl (lv_at hl 1 rfl) ?_
    refine lv_iload hx hb dL_law_1462 (lv_at hl 5 rfl) ?_
    refine lv_iconst (v := 2) hx hb dL_law_1464 (by decide) ?_
    refine lv_iadd hx hb dL_law_1465 ?_
    refine x_sld K X hS h2 dL_law_1466 ?_
    have X := X.perm wL_swap
    have kx := m_X8_setPressure l D ca am n2 M (wC ar ag ca P' G' ++ [(ao, oc ca (va_up O 0 res.toInt64))]) a1 a2 b M' h8 H.size
    refine x_callVw K hA X kx hl.1 2 q1824 q1825 q1826 q97 q1827 hv_X8_setPressure ⟨⟨(Nat.le_of_ble_eq_true rfl), (Nat.le_of_ble_eq_true rfl)⟩, rfl, rfl⟩ pl_modo rfl rfl rfl rfl (Nat.le_of_ble_eq_true rfl) dL_law_1467 ⟨(by show cells + 1 + 0 ≤ 601024; omega), (by show slots + 6 + 0 ≤ 7293034; omega)⟩ rfl (fun H locs X => ?_)
    have X := X.perm wL_swap.symm
    refine lv_istore (lv' := [(6, .int b), (5, .int 0), (0, .ref b0), (1, .ref (ag 0)), (2, .ref (am 0)), (3, .ref ao), (4, .int I)]) hx hb dL_law_1470 hl (by decide) rfl (fun ls hl => ?_)
    refine lv_aload_n hx hb dL_law_1472 rfl (lv_at hl 4 rfl) ?_
    have X := X.perm wL_swap
    have kx := m_X8_thrown l D ca am M' (wC ar ag ca P' G' ++ [(ao, oc ca (va_up O 0 res.toInt64))]) 0 hT H.size
    refine x_callVw K hA X kx hl.1 0 q1380 q1381 q1382 q97 q1383 hv_X8_thrown ⟨⟨(Nat.le_of_ble_eq_true rfl), (Nat.le_of_ble_eq_true rfl)⟩, rfl, rfl⟩ pl_modo rfl rfl rfl rfl (Nat.le_of_ble_eq_true rfl) dL_law_1473 ⟨(by show cells + 1 + 0 ≤ 601024; omega), (by show slots + 6 + 0 ≤ 7293034; omega)⟩ rfl (fun H locs X => ?_)
    have X := X.perm wL_swap.symm
    refine lv_iload hx hb dL_law_1476 (lv_at hl 1 rfl) ?_
    refine lv_icmp_eq (tgt := 1483) hx hb dL_law_1478 (by decide) (fun _ => ?_) (fun c1 => absurd rfl c1)
    refine lv_iload hx hb dL_law_1483 (lv_at hl 1 rfl) ?_
    refine lv_if_ne (tgt := 1500) hx hb dL_law_1485 (by decide) (fun c1 => absurd rfl c1) (fun _ => ?_)
    refine lv_aload_n hx hb dL_law_1488 rfl (lv_at hl 5 rfl) ?_
    refine lv_iconst (v := 0) hx hb dL_law_1489 (by decide) ?_
    refine x_lald K X (241 + (wM am ca M').length) ctor_atw (vp_in_iff.mpr (by decide)) dL_law_1490 ?_
    refine lv_iload hx hb dL_law_1491 (lv_at hl 0 rfl) ?_
    refine lv_i2l hx hb dL_law_1493 rfl ?_
    refine w_beq (tgt := 1500) K dL_law_1494 dL_law_1495 (by decide) (fun _ => ?_) (fun c1 => absurd (by rw [show (0 : Int32).toNatClampNeg = 0 from rfl, va_up_self]; exact hv) c1)
    refine lv_goto (tgt := 2302) hx hb dL_law_1500 (by decide) ?_
    exact kk P' G' M' (va_up O 0 res.toInt64) H locs ls hI X (lv_sub hl [2, 3, 4, 5, 6] rfl)
  · skip
    obtain ⟨n2, b, M', ht, h8, hT, hI⟩ := hok
    refine lv_aload_n hx hb dL_law_1435 rfl (lv_at hl 1 rfl) ?_
    refine lv_aload_n hx hb dL_law_1436 rfl (lv_at hl 0 rfl) ?_
    refine lv_iload hx hb dL_law_1437 (lv_at hl 4 rfl) ?_
    refine lv_iconst (v := 1) hx hb dL_law_1439 (by decide) ?_
    refine lv_iadd hx hb dL_law_1440 ?_
    refine x_sld K X hS h1 dL_law_1441 ?_
    refine lv_aload_n hx hb dL_law_1442 rfl (lv_at hl 0 rfl) ?_
    refine lv_iload hx hb dL_law_1443 (lv_at hl 4 rfl) ?_
    refine lv_iconst (v := 2) hx hb dL_law_1445 (by decide) ?_
    refine lv_iadd hx hb dL_law_1446 ?_
    refine x_sld K X hS h2 dL_law_1447 ?_
    refine lv_aload_n hx hb dL_law_1448 rfl (lv_at hl 3 rfl) ?_
    have kx := e1_L_setPressure l D ca ar ag z hl0 P G (wM am ca M) ao O a1 a2 ht H.size
    refine x_callSW K hA hZ X kx hl.1 4 q980 q981 q86 q982 hs_L_setPressure ⟨⟨(Nat.le_of_ble_eq_true rfl), (Nat.le_of_ble_eq_true rfl)⟩, rfl, rfl⟩ rfl rfl (Nat.le_of_ble_eq_true rfl) dL_law_1449 ⟨hroom.1, hroom.2⟩ rfl (fun H locs X => ?_)
    refine lv_istore (lv' := [(5, .int 1), (0, .ref b0), (1, .ref (ag 0)), (2, .ref (am 0)), (3, .ref ao), (4, .int I)]) hx hb dL_law_1452 hl (by decide) rfl (fun ls hl => ?_)
    refine lv_aload_n hx hb dL_law_1454 rfl (lv_at hl 3 rfl) ?_
    refine lv_aload_n hx hb dL_law_1455 rfl (lv_at hl 1 rfl) ?_
    refine lv_iload hx hb dL_law_1456 (lv_at hl 5 rfl) ?_
    refine lv_iconst (v := 1) hx hb dL_law_1458 (by decide) ?_
    refine lv_iadd hx hb dL_law_1459 ?_
    refine x_sld K X hS h1 dL_law_1460 ?_
    refine lv_aload_n hx hb dL_law_1461 rfl (lv_at hl 1 rfl) ?_
    refine lv_iload hx hb dL_law_1462 (lv_at hl 5 rfl) ?_
    refine lv_iconst (v := 2) hx hb dL_law_1464 (by decide) ?_
    refine lv_iadd hx hb dL_law_1465 ?_
    refine x_sld K X hS h2 dL_law_1466 ?_
    have X := X.perm wL_swap
    have kx := m_X8_setPressure l D ca am n2 M (wC ar ag ca P G ++ [(ao, oc ca O)]) a1 a2 b M' h8 H.size
    refine x_callVw K hA X kx hl.1 2 q1824 q1825 q1826 q97 q1827 hv_X8_setPressure ⟨⟨(Nat.le_of_ble_eq_true rfl), (Nat.le_of_ble_eq_true rfl)⟩, rfl, rfl⟩ pl_modo rfl rfl rfl rfl (Nat.le_of_ble_eq_true rfl) dL_law_1467 ⟨(by show cells + 1 + 0 ≤ 601024; omega), (by show slots + 6 + 0 ≤ 7293034; omega)⟩ rfl (fun H locs X => ?_)
    have X := X.perm wL_swap.symm
    refine lv_istore (lv' := [(6, .int b), (5, .int 1), (0, .ref b0), (1, .ref (ag 0)), (2, .ref (am 0)), (3, .ref ao), (4, .int I)]) hx hb dL_law_1470 hl (by decide) rfl (fun ls hl => ?_)
    refine lv_aload_n hx hb dL_law_1472 rfl (lv_at hl 4 rfl) ?_
    have X := X.perm wL_swap
    have kx := m_X8_thrown l D ca am M' (wC ar ag ca P G ++ [(ao, oc ca O)]) 1 hT H.size
    refine x_callVw K hA X kx hl.1 0 q1380 q1381 q1382 q97 q1383 hv_X8_thrown ⟨⟨(Nat.le_of_ble_eq_true rfl), (Nat.le_of_ble_eq_true rfl)⟩, rfl, rfl⟩ pl_modo rfl rfl rfl rfl (Nat.le_of_ble_eq_true rfl) dL_law_1473 ⟨(by show cells + 1 + 0 ≤ 601024; omega), (by show slots + 6 + 0 ≤ 7293034; omega)⟩ rfl (fun H locs X => ?_)
    have X := X.perm wL_swap.symm
    refine lv_iload hx hb dL_law_1476 (lv_at hl 1 rfl) ?_
    refine lv_icmp_eq (tgt := 1483) hx hb dL_law_1478 (by decide) (fun _ => ?_) (fun c1 => absurd rfl c1)
    refine lv_iload hx hb dL_law_1483 (lv_at hl 1 rfl) ?_
    refine lv_if_ne (tgt := 1500) hx hb dL_law_1485 (by decide) (fun _ => ?_) (fun c1 => absurd c1 (by decide))
    refine lv_goto (tgt := 2302) hx hb dL_law_1500 (by decide) ?_
    exact kk P G M' O H locs ls hI X (lv_sub hl [2, 3, 4, 5, 6] rfl)
  · skip
    obtain ⟨n2, b, M', ht, h8, hT, hI⟩ := hok
    refine lv_aload_n hx hb dL_law_1435 rfl (lv_at hl 1 rfl) ?_
    refine lv_aload_n hx hb dL_law_1436 rfl (lv_at hl 0 rfl) ?_
    refine lv_iload hx hb dL_law_1437 (lv_at hl 4 rfl) ?_
    refine lv_iconst (v := 1) hx hb dL_law_1439 (by decide) ?_
    refine lv_iadd hx hb dL_law_1440 ?_
    refine x_sld K X hS h1 dL_law_1441 ?_
    refine lv_aload_n hx hb dL_law_1442 rfl (lv_at hl 0 rfl) ?_
    refine lv_iload hx hb dL_law_1443 (lv_at hl 4 rfl) ?_
    refine lv_iconst (v := 2) hx hb dL_law_1445 (by decide) ?_
    refine lv_iadd hx hb dL_law_1446 ?_
    refine x_sld K X hS h2 dL_law_1447 ?_
    refine lv_aload_n hx hb dL_law_1448 rfl (lv_at hl 3 rfl) ?_
    have kx := e2_L_setPressure l D ca ar ag z hl0 P G (wM am ca M) ao O a1 a2 ht H.size
    refine x_callSW K hA hZ X kx hl.1 4 q980 q981 q86 q982 hs_L_setPressure ⟨⟨(Nat.le_of_ble_eq_true rfl), (Nat.le_of_ble_eq_true rfl)⟩, rfl, rfl⟩ rfl rfl (Nat.le_of_ble_eq_true rfl) dL_law_1449 ⟨hroom.1, hroom.2⟩ rfl (fun H locs X => ?_)
    refine lv_istore (lv' := [(5, .int 2), (0, .ref b0), (1, .ref (ag 0)), (2, .ref (am 0)), (3, .ref ao), (4, .int I)]) hx hb dL_law_1452 hl (by decide) rfl (fun ls hl => ?_)
    refine lv_aload_n hx hb dL_law_1454 rfl (lv_at hl 3 rfl) ?_
    refine lv_aload_n hx hb dL_law_1455 rfl (lv_at hl 1 rfl) ?_
    refine lv_iload hx hb dL_law_1456 (lv_at hl 5 rfl) ?_
    refine lv_iconst (v := 1) hx hb dL_law_1458 (by decide) ?_
    refine lv_iadd hx hb dL_law_1459 ?_
    refine x_sld K X hS h1 dL_law_1460 ?_
    refine lv_aload_n hx hb dL_law_1461 rfl (lv_at hl 1 rfl) ?_
    refine lv_iload hx hb dL_law_1462 (lv_at hl 5 rfl) ?_
    refine lv_iconst (v := 2) hx hb dL_law_1464 (by decide) ?_
    refine lv_iadd hx hb dL_law_1465 ?_
    refine x_sld K X hS h2 dL_law_1466 ?_
    have X := X.perm wL_swap
    have kx := m_X8_setPressure l D ca am n2 M (wC ar ag ca P G ++ [(ao, oc ca O)]) a1 a2 b M' h8 H.size
    refine x_callVw K hA X kx hl.1 2 q1824 q1825 q1826 q97 q1827 hv_X8_setPressure ⟨⟨(Nat.le_of_ble_eq_true rfl), (Nat.le_of_ble_eq_true rfl)⟩, rfl, rfl⟩ pl_modo rfl rfl rfl rfl (Nat.le_of_ble_eq_true rfl) dL_law_1467 ⟨(by show cells + 1 + 0 ≤ 601024; omega), (by show slots + 6 + 0 ≤ 7293034; omega)⟩ rfl (fun H locs X => ?_)
    have X := X.perm wL_swap.symm
    refine lv_istore (lv' := [(6, .int b), (5, .int 2), (0, .ref b0), (1, .ref (ag 0)), (2, .ref (am 0)), (3, .ref ao), (4, .int I)]) hx hb dL_law_1470 hl (by decide) rfl (fun ls hl => ?_)
    refine lv_aload_n hx hb dL_law_1472 rfl (lv_at hl 4 rfl) ?_
    have X := X.perm wL_swap
    have kx := m_X8_thrown l D ca am M' (wC ar ag ca P G ++ [(ao, oc ca O)]) 2 hT H.size
    refine x_callVw K hA X kx hl.1 0 q1380 q1381 q1382 q97 q1383 hv_X8_thrown ⟨⟨(Nat.le_of_ble_eq_true rfl), (Nat.le_of_ble_eq_true rfl)⟩, rfl, rfl⟩ pl_modo rfl rfl rfl rfl (Nat.le_of_ble_eq_true rfl) dL_law_1473 ⟨(by show cells + 1 + 0 ≤ 601024; omega), (by show slots + 6 + 0 ≤ 7293034; omega)⟩ rfl (fun H locs X => ?_)
    have X := X.perm wL_swap.symm
    refine lv_iload hx hb dL_law_1476 (lv_at hl 1 rfl) ?_
    refine lv_icmp_eq (tgt := 1483) hx hb dL_law_1478 (by decide) (fun _ => ?_) (fun c1 => absurd rfl c1)
    refine lv_iload hx hb dL_law_1483 (lv_at hl 1 rfl) ?_
    refine lv_if_ne (tgt := 1500) hx hb dL_law_1485 (by decide) (fun _ => ?_) (fun c1 => absurd c1 (by decide))
    refine lv_goto (tgt := 2302) hx hb dL_law_1500 (by decide) ?_
    exact kk P G M' O H locs ls hI X (lv_sub hl [2, 3, 4, 5, 6] rfl)
-- case 24
def OK_setReference (Inv : RowsS → GlbS → RowS → Prop) (P : RowsS) (G : GlbS) (M : RowS) (a1 : Int32) : Prop :=
  (∃ (n : Nat) (res : Int32) (P' : RowsS) (G' : GlbS) (n2 : Nat) (b : Int32) (M' : RowS), f_X7_setReference n P G a1 = some (res, P', G') ∧ f_X8_setReference n2 M a1 = some (b, M') ∧ f_X8_thrown M' = 0 ∧ res.toInt64 = b.toInt64 ∧ Inv P' G' M') ∨
  (∃ (n2 : Nat) (b : Int32) (M' : RowS), t_X7_setReference P G a1 = some 2 ∧ f_X8_setReference n2 M a1 = some (b, M') ∧ f_X8_thrown M' = 1 ∧ Inv P G M')
set_option maxRecDepth 100000 in
set_option maxHeartbeats 4000000 in
theorem k_setReference {p : Program} {l : Launch} {e : Env} {s : State} {m : MethodId} {args : Array Value} {below : List Frame} {meth : Method} {c : Code} {Q : State → Prop} {D : va_G} {A : Nat → Prop} {ar : Nat → Nat → Nat} {ag : Nat → Nat} {ca : Nat → ClassId} {am : Nat → Nat} {ao b0 L : Nat} {xs : Nat → Int32} {I : Int32} {Inv : RowsS → GlbS → RowS → Prop} {cells slots : Nat} {z : ZG} (K : MC D ca p s m args meth c cL_law 9 RL) (hl0 : l.stackTraces = false) (hA : ∀ q, s.heap.size ≤ q → A q) (hZ : ZF z A s s.heap) (hS : va_X b0 L xs s s.heap ∧ b0 < s.heap.size ∧ ¬ A b0) (hroom : cells + 1 ≤ 601024 ∧ slots + 6 ≤ 7293034) {a1 : Int32} (h1 : vp_in (I + 1) L ∧ xs (I + 1).toNatClampNeg = a1) {P : RowsS} {G : GlbS} {M : RowS} {O : Nat → Int64} {H : Heap} {locs : List Loc} {ls : Array Slot} (hok : OK_setReference Inv P G M a1) (X : RX D A (wL ar ag ca am P G M ao O) s.heap H locs) (hl : lv_has ls 9 [(0, .ref b0), (1, .ref (ag 0)), (2, .ref (am 0)), (3, .ref ao), (4, .int I)]) (kk : LwAt p l e s m args below meth c Q D A ar ag ca am ao b0 I Inv (cells + 1) (slots + 6) 2302) : W p l e room_1 s m args below meth c H locs cells slots Q (F0 m 1503 ls []) := by
  have hx := K.1
  have hb := K.2.1
  unfold OK_setReference at hok
  rcases hok with hok | hok
  · skip
    obtain ⟨n, res, P', G', n2, b, M', h7, h8, hT, hv, hI⟩ := hok
    refine lv_aload_n hx hb dL_law_1503 rfl (lv_at hl 1 rfl) ?_
    refine lv_aload_n hx hb dL_law_1504 rfl (lv_at hl 0 rfl) ?_
    refine lv_iload hx hb dL_law_1505 (lv_at hl 4 rfl) ?_
    refine lv_iconst (v := 1) hx hb dL_law_1507 (by decide) ?_
    refine lv_iadd hx hb dL_law_1508 ?_
    refine x_sld K X hS h1 dL_law_1509 ?_
    refine lv_aload_n hx hb dL_law_1510 rfl (lv_at hl 3 rfl) ?_
    have kx := n_L_setReference l D ca ar ag z n P G (wM am ca M) ao O a1 res P' G' h7 H.size
    refine x_callSW K hA hZ X kx hl.1 3 q991 q992 q86 q993 hs_L_setReference ⟨⟨(Nat.le_of_ble_eq_true rfl), (Nat.le_of_ble_eq_true rfl)⟩, rfl, rfl⟩ rfl rfl (Nat.le_of_ble_eq_true rfl) dL_law_1511 ⟨hroom.1, hroom.2⟩ rfl (fun H locs X => ?_)
    refine lv_istore (lv' := [(5, .int 0), (0, .ref b0), (1, .ref (ag 0)), (2, .ref (am 0)), (3, .ref ao), (4, .int I)]) hx hb dL_law_1514 hl (by decide) rfl (fun ls hl => ?_)
    refine lv_aload_n hx hb dL_law_1516 rfl (lv_at hl 3 rfl) ?_
    refine lv_aload_n hx hb dL_law_1517 rfl (lv_at hl 1 rfl) ?_
    refine lv_iload hx hb dL_law_1518 (lv_at hl 5 rfl) ?_
    refine lv_iconst (v := 1) hx hb dL_law_1520 (by decide) ?_
    refine lv_iadd hx hb dL_law_1521 ?_
    refine x_sld K X hS h1 dL_law_1522 ?_
    have X := X.perm wL_swap
    have kx := m_X8_setReference l D ca am n2 M (wC ar ag ca P' G' ++ [(ao, oc ca (va_up O 0 res.toInt64))]) a1 b M' h8 H.size
    refine x_callVw K hA X kx hl.1 1 q1836 q1837 q1838 q97 q1839 hv_X8_setReference ⟨⟨(Nat.le_of_ble_eq_true rfl), (Nat.le_of_ble_eq_true rfl)⟩, rfl, rfl⟩ pl_modo rfl rfl rfl rfl (Nat.le_of_ble_eq_true rfl) dL_law_1523 ⟨(by show cells + 1 + 0 ≤ 601024; omega), (by show slots + 6 + 0 ≤ 7293034; omega)⟩ rfl (fun H locs X => ?_)
    have X := X.perm wL_swap.symm
    refine lv_istore (lv' := [(6, .int b), (5, .int 0), (0, .ref b0), (1, .ref (ag 0)), (2, .ref (am 0)), (3, .ref ao), (4, .int I)]) hx hb dL_law_1526 hl (by decide) rfl (fun ls hl => ?_)
    refine lv_aload_n hx hb dL_law_1528 rfl (lv_at hl 4 rfl) ?_
    have X := X.perm wL_swap
    have kx := m_X8_thrown l D ca am M' (wC ar ag ca P' G' ++ [(ao, oc ca (va_up O 0 res.toInt64))]) 0 hT H.size
    refine x_callVw K hA X kx hl.1 0 q1380 q1381 q1382 q97 q1383 hv_X8_thrown ⟨⟨(Nat.le_of_ble_eq_true rfl), (Nat.le_of_ble_eq_true rfl)⟩, rfl, rfl⟩ pl_modo rfl rfl rfl rfl (Nat.le_of_ble_eq_true rfl) dL_law_1529 ⟨(by show cells + 1 + 0 ≤ 601024; omega), (by show slots + 6 + 0 ≤ 7293034; omega)⟩ rfl (fun H locs X => ?_)
    have X := X.perm wL_swap.symm
    refine lv_iload hx hb dL_law_1532 (lv_at hl 1 rfl) ?_
    refine lv_icmp_eq (tgt := 1539) hx hb dL_law_1534 (by decide) (fun _ => ?_) (fun c1 => absurd rfl c1)
    refine lv_iload hx hb dL_law_1539 (lv_at hl 1 rfl) ?_
    refine lv_if_ne (tgt := 1556) hx hb dL_law_1541 (by decide) (fun c1 => absurd rfl c1) (fun _ => ?_)
    refine lv_aload_n hx hb dL_law_1544 rfl (lv_at hl 5 rfl) ?_
    refine lv_iconst (v := 0) hx hb dL_law_1545 (by decide) ?_
    refine x_lald K X (241 + (wM am ca M').length) ctor_atw (vp_in_iff.mpr (by decide)) dL_law_1546 ?_
    refine lv_iload hx hb dL_law_1547 (lv_at hl 0 rfl) ?_
    refine lv_i2l hx hb dL_law_1549 rfl ?_
    refine w_beq (tgt := 1556) K dL_law_1550 dL_law_1551 (by decide) (fun _ => ?_) (fun c1 => absurd (by rw [show (0 : Int32).toNatClampNeg = 0 from rfl, va_up_self]; exact hv) c1)
    refine lv_goto (tgt := 2302) hx hb dL_law_1556 (by decide) ?_
    exact kk P' G' M' (va_up O 0 res.toInt64) H locs ls hI X (lv_sub hl [2, 3, 4, 5, 6] rfl)
  · skip
    obtain ⟨n2, b, M', ht, h8, hT, hI⟩ := hok
    refine lv_aload_n hx hb dL_law_1503 rfl (lv_at hl 1 rfl) ?_
    refine lv_aload_n hx hb dL_law_1504 rfl (lv_at hl 0 rfl) ?_
    refine lv_iload hx hb dL_law_1505 (lv_at hl 4 rfl) ?_
    refine lv_iconst (v := 1) hx hb dL_law_1507 (by decide) ?_
    refine lv_iadd hx hb dL_law_1508 ?_
    refine x_sld K X hS h1 dL_law_1509 ?_
    refine lv_aload_n hx hb dL_law_1510 rfl (lv_at hl 3 rfl) ?_
    have kx := e2_L_setReference l D ca ar ag z hl0 P G (wM am ca M) ao O a1 ht H.size
    refine x_callSW K hA hZ X kx hl.1 3 q991 q992 q86 q993 hs_L_setReference ⟨⟨(Nat.le_of_ble_eq_true rfl), (Nat.le_of_ble_eq_true rfl)⟩, rfl, rfl⟩ rfl rfl (Nat.le_of_ble_eq_true rfl) dL_law_1511 ⟨hroom.1, hroom.2⟩ rfl (fun H locs X => ?_)
    refine lv_istore (lv' := [(5, .int 1), (0, .ref b0), (1, .ref (ag 0)), (2, .ref (am 0)), (3, .ref ao), (4, .int I)]) hx hb dL_law_1514 hl (by decide) rfl (fun ls hl => ?_)
    refine lv_aload_n hx hb dL_law_1516 rfl (lv_at hl 3 rfl) ?_
    refine lv_aload_n hx hb dL_law_1517 rfl (lv_at hl 1 rfl) ?_
    refine lv_iload hx hb dL_law_1518 (lv_at hl 5 rfl) ?_
    refine lv_iconst (v := 1) hx hb dL_law_1520 (by decide) ?_
    refine lv_iadd hx hb dL_law_1521 ?_
    refine x_sld K X hS h1 dL_law_1522 ?_
    have X := X.perm wL_swap
    have kx := m_X8_setReference l D ca am n2 M (wC ar ag ca P G ++ [(ao, oc ca O)]) a1 b M' h8 H.size
    refine x_callVw K hA X kx hl.1 1 q1836 q1837 q1838 q97 q1839 hv_X8_setReference ⟨⟨(Nat.le_of_ble_eq_true rfl), (Nat.le_of_ble_eq_true rfl)⟩, rfl, rfl⟩ pl_modo rfl rfl rfl rfl (Nat.le_of_ble_eq_true rfl) dL_law_1523 ⟨(by show cells + 1 + 0 ≤ 601024; omega), (by show slots + 6 + 0 ≤ 7293034; omega)⟩ rfl (fun H locs X => ?_)
    have X := X.perm wL_swap.symm
    refine lv_istore (lv' := [(6, .int b), (5, .int 1), (0, .ref b0), (1, .ref (ag 0)), (2, .ref (am 0)), (3, .ref ao), (4, .int I)]) hx hb dL_law_1526 hl (by decide) rfl (fun ls hl => ?_)
    refine lv_aload_n hx hb dL_law_1528 rfl (lv_at hl 4 rfl) ?_
    have X := X.perm wL_swap
    have kx := m_X8_thrown l D ca am M' (wC ar ag ca P G ++ [(ao, oc ca O)]) 1 hT H.size
    refine x_callVw K hA X kx hl.1 0 q1380 q1381 q1382 q97 q1383 hv_X8_thrown ⟨⟨(Nat.le_of_ble_eq_true rfl), (Nat.le_of_ble_eq_true rfl)⟩, rfl, rfl⟩ pl_modo rfl rfl rfl rfl (Nat.le_of_ble_eq_true rfl) dL_law_1529 ⟨(by show cells + 1 + 0 ≤ 601024; omega), (by show slots + 6 + 0 ≤ 7293034; omega)⟩ rfl (fun H locs X => ?_)
    have X := X.perm wL_swap.symm
    refine lv_iload hx hb dL_law_1532 (lv_at hl 1 rfl) ?_
    refine lv_icmp_eq (tgt := 1539) hx hb dL_law_1534 (by decide) (fun _ => ?_) (fun c1 => absurd rfl c1)
    refine lv_iload hx hb dL_law_1539 (lv_at hl 1 rfl) ?_
    refine lv_if_ne (tgt := 1556) hx hb dL_law_1541 (by decide) (fun _ => ?_) (fun c1 => absurd c1 (by decide))
    refine lv_goto (tgt := 2302) hx hb dL_law_1556 (by decide) ?_
    exact kk P G M' O H locs ls hI X (lv_sub hl [2, 3, 4, 5, 6] rfl)
-- case 25
def OK_sweep (Inv : RowsS → GlbS → RowS → Prop) (P : RowsS) (G : GlbS) (M : RowS) (a1 : Int32) (a2 : Int32) (a3 : Int32) : Prop :=
  (∃ (n : Nat) (res : Int32) (P' : RowsS) (G' : GlbS) (n2 : Nat) (b : Int32) (M' : RowS), f_X7_sweep n P G a1 a2 a3 = some (res, P', G') ∧ f_X8_sweep n2 M a1 a2 a3 = some (b, M') ∧ f_X8_thrown M' = 0 ∧ res.toInt64 = b.toInt64 ∧ Inv P' G' M') ∨
  (∃ (n2 : Nat) (b : Int32) (M' : RowS), t_X7_sweep P G a1 a2 a3 = some 1 ∧ f_X8_sweep n2 M a1 a2 a3 = some (b, M') ∧ f_X8_thrown M' = 1 ∧ Inv P G M') ∨
  (∃ (n2 : Nat) (b : Int32) (M' : RowS), t_X7_sweep P G a1 a2 a3 = some 2 ∧ f_X8_sweep n2 M a1 a2 a3 = some (b, M') ∧ f_X8_thrown M' = 2 ∧ Inv P G M')
set_option maxRecDepth 100000 in
set_option maxHeartbeats 4000000 in
theorem k_sweep {p : Program} {l : Launch} {e : Env} {s : State} {m : MethodId} {args : Array Value} {below : List Frame} {meth : Method} {c : Code} {Q : State → Prop} {D : va_G} {A : Nat → Prop} {ar : Nat → Nat → Nat} {ag : Nat → Nat} {ca : Nat → ClassId} {am : Nat → Nat} {ao b0 L : Nat} {xs : Nat → Int32} {I : Int32} {Inv : RowsS → GlbS → RowS → Prop} {cells slots : Nat} {z : ZG} (K : MC D ca p s m args meth c cL_law 9 RL) (hl0 : l.stackTraces = false) (hA : ∀ q, s.heap.size ≤ q → A q) (hZ : ZF z A s s.heap) (hS : va_X b0 L xs s s.heap ∧ b0 < s.heap.size ∧ ¬ A b0) (hroom : cells + 1 ≤ 601024 ∧ slots + 6 ≤ 7293034) {a1 : Int32} {a2 : Int32} {a3 : Int32} (h1 : vp_in (I + 1) L ∧ xs (I + 1).toNatClampNeg = a1) (h2 : vp_in (I + 2) L ∧ xs (I + 2).toNatClampNeg = a2) (h3 : vp_in (I + 3) L ∧ xs (I + 3).toNatClampNeg = a3) {P : RowsS} {G : GlbS} {M : RowS} {O : Nat → Int64} {H : Heap} {locs : List Loc} {ls : Array Slot} (hok : OK_sweep Inv P G M a1 a2 a3) (X : RX D A (wL ar ag ca am P G M ao O) s.heap H locs) (hl : lv_has ls 9 [(0, .ref b0), (1, .ref (ag 0)), (2, .ref (am 0)), (3, .ref ao), (4, .int I)]) (kk : LwAt p l e s m args below meth c Q D A ar ag ca am ao b0 I Inv (cells + 1) (slots + 6) 2302) : W p l e room_1 s m args below meth c H locs cells slots Q (F0 m 1559 ls []) := by
  have hx := K.1
  have hb := K.2.1
  unfold OK_sweep at hok
  rcases hok with hok | hok | hok
  · skip
    obtain ⟨n, res, P', G', n2, b, M', h7, h8, hT, hv, hI⟩ := hok
    refine lv_aload_n hx hb dL_law_1559 rfl (lv_at hl 1 rfl) ?_
    refine lv_aload_n hx hb dL_law_1560 rfl (lv_at hl 0 rfl) ?_
    refine lv_iload hx hb dL_law_1561 (lv_at hl 4 rfl) ?_
    refine lv_iconst (v := 1) hx hb dL_law_1563 (by decide) ?_
    refine lv_iadd hx hb dL_law_1564 ?_
    refine x_sld K X hS h1 dL_law_1565 ?_
    refine lv_aload_n hx hb dL_law_1566 rfl (lv_at hl 0 rfl) ?_
    refine lv_iload hx hb dL_law_1567 (lv_at hl 4 rfl) ?_
    refine lv_iconst (v := 2) hx hb dL_law_1569 (by decide) ?_
    refine lv_iadd hx hb dL_law_1570 ?_
    refine x_sld K X hS h2 dL_law_1571 ?_
    refine lv_aload_n hx hb dL_law_1572 rfl (lv_at hl 0 rfl) ?_
    refine lv_iload hx hb dL_law_1573 (lv_at hl 4 rfl) ?_
    refine lv_iconst (v := 3) hx hb dL_law_1575 (by decide) ?_
    refine lv_iadd hx hb dL_law_1576 ?_
    refine x_sld K X hS h3 dL_law_1577 ?_
    refine lv_aload_n hx hb dL_law_1578 rfl (lv_at hl 3 rfl) ?_
    have kx := n_L_sweep l D ca ar ag z n P G (wM am ca M) ao O a1 a2 a3 res P' G' h7 H.size
    refine x_callSW K hA hZ X kx hl.1 5 q998 q999 q86 q1000 hs_L_sweep ⟨⟨(Nat.le_of_ble_eq_true rfl), (Nat.le_of_ble_eq_true rfl)⟩, rfl, rfl⟩ rfl rfl (Nat.le_of_ble_eq_true rfl) dL_law_1579 ⟨hroom.1, hroom.2⟩ rfl (fun H locs X => ?_)
    refine lv_istore (lv' := [(5, .int 0), (0, .ref b0), (1, .ref (ag 0)), (2, .ref (am 0)), (3, .ref ao), (4, .int I)]) hx hb dL_law_1582 hl (by decide) rfl (fun ls hl => ?_)
    refine lv_aload_n hx hb dL_law_1584 rfl (lv_at hl 3 rfl) ?_
    refine lv_aload_n hx hb dL_law_1585 rfl (lv_at hl 1 rfl) ?_
    refine lv_iload hx hb dL_law_1586 (lv_at hl 5 rfl) ?_
    refine lv_iconst (v := 1) hx hb dL_law_1588 (by decide) ?_
    refine lv_iadd hx hb dL_law_1589 ?_
    refine x_sld K X hS h1 dL_law_1590 ?_
    refine lv_aload_n hx hb dL_law_1591 rfl (lv_at hl 1 rfl) ?_
    refine lv_iload hx hb dL_law_1592 (lv_at hl 5 rfl) ?_
    refine lv_iconst (v := 2) hx hb dL_law_1594 (by decide) ?_
    refine lv_iadd hx hb dL_law_1595 ?_
    refine x_sld K X hS h2 dL_law_1596 ?_
    refine lv_aload_n hx hb dL_law_1597 rfl (lv_at hl 1 rfl) ?_
    refine lv_iload hx hb dL_law_1598 (lv_at hl 5 rfl) ?_
    refine lv_iconst (v := 3) hx hb dL_law_1600 (by decide) ?_
    refine lv_iadd hx hb dL_law_1601 ?_
    refine x_sld K X hS h3 dL_law_1602 ?_
    have X := X.perm wL_swap
    have kx := m_X8_sweep l D ca am n2 M (wC ar ag ca P' G' ++ [(ao, oc ca (va_up O 0 res.toInt64))]) a1 a2 a3 b M' h8 H.size
    refine x_callVw K hA X kx hl.1 3 q1840 q1841 q1842 q97 q1843 hv_X8_sweep ⟨⟨(Nat.le_of_ble_eq_true rfl), (Nat.le_of_ble_eq_true rfl)⟩, rfl, rfl⟩ pl_modo rfl rfl rfl rfl (Nat.le_of_ble_eq_true rfl) dL_law_1603 ⟨(by show cells + 1 + 0 ≤ 601024; omega), (by show slots + 6 + 0 ≤ 7293034; omega)⟩ rfl (fun H locs X => ?_)
    have X := X.perm wL_swap.symm
    refine lv_istore (lv' := [(6, .int b), (5, .int 0), (0, .ref b0), (1, .ref (ag 0)), (2, .ref (am 0)), (3, .ref ao), (4, .int I)]) hx hb dL_law_1606 hl (by decide) rfl (fun ls hl => ?_)
    refine lv_aload_n hx hb dL_law_1608 rfl (lv_at hl 4 rfl) ?_
    have X := X.perm wL_swap
    have kx := m_X8_thrown l D ca am M' (wC ar ag ca P' G' ++ [(ao, oc ca (va_up O 0 res.toInt64))]) 0 hT H.size
    refine x_callVw K hA X kx hl.1 0 q1380 q1381 q1382 q97 q1383 hv_X8_thrown ⟨⟨(Nat.le_of_ble_eq_true rfl), (Nat.le_of_ble_eq_true rfl)⟩, rfl, rfl⟩ pl_modo rfl rfl rfl rfl (Nat.le_of_ble_eq_true rfl) dL_law_1609 ⟨(by show cells + 1 + 0 ≤ 601024; omega), (by show slots + 6 + 0 ≤ 7293034; omega)⟩ rfl (fun H locs X => ?_)
    have X := X.perm wL_swap.symm
    refine lv_iload hx hb dL_law_1612 (lv_at hl 1 rfl) ?_
    refine lv_icmp_eq (tgt := 1619) hx hb dL_law_1614 (by decide) (fun _ => ?_) (fun c1 => absurd rfl c1)
    refine lv_iload hx hb dL_law_1619 (lv_at hl 1 rfl) ?_
    refine lv_if_ne (tgt := 1636) hx hb dL_law_1621 (by decide) (fun c1 => absurd rfl c1) (fun _ => ?_)
    refine lv_aload_n hx hb dL_law_1624 rfl (lv_at hl 5 rfl) ?_
    refine lv_iconst (v := 0) hx hb dL_law_1625 (by decide) ?_
    refine x_lald K X (241 + (wM am ca M').length) ctor_atw (vp_in_iff.mpr (by decide)) dL_law_1626 ?_
    refine lv_iload hx hb dL_law_1627 (lv_at hl 0 rfl) ?_
    refine lv_i2l hx hb dL_law_1629 rfl ?_
    refine w_beq (tgt := 1636) K dL_law_1630 dL_law_1631 (by decide) (fun _ => ?_) (fun c1 => absurd (by rw [show (0 : Int32).toNatClampNeg = 0 from rfl, va_up_self]; exact hv) c1)
    refine lv_goto (tgt := 2302) hx hb dL_law_1636 (by decide) ?_
    exact kk P' G' M' (va_up O 0 res.toInt64) H locs ls hI X (lv_sub hl [2, 3, 4, 5, 6] rfl)
  · skip
    obtain ⟨n2, b, M', ht, h8, hT, hI⟩ := hok
    refine lv_aload_n hx hb dL_law_1559 rfl (lv_at hl 1 rfl) ?_
    refine lv_aload_n hx hb dL_law_1560 rfl (lv_at hl 0 rfl) ?_
    refine lv_iload hx hb dL_law_1561 (lv_at hl 4 rfl) ?_
    refine lv_iconst (v := 1) hx hb dL_law_1563 (by decide) ?_
    refine lv_iadd hx hb dL_law_1564 ?_
    refine x_sld K X hS h1 dL_law_1565 ?_
    refine lv_aload_n hx hb dL_law_1566 rfl (lv_at hl 0 rfl) ?_
    refine lv_iload hx hb dL_law_1567 (lv_at hl 4 rfl) ?_
    refine lv_iconst (v := 2) hx hb dL_law_1569 (by decide) ?_
    refine lv_iadd hx hb dL_law_1570 ?_
    refine x_sld K X hS h2 dL_law_1571 ?_
    refine lv_aload_n hx hb dL_law_1572 rfl (lv_at hl 0 rfl) ?_
    refine lv_iload hx hb dL_law_1573 (lv_at hl 4 rfl) ?_
    refine lv_iconst (v := 3) hx hb dL_law_1575 (by decide) ?_
    refine lv_iadd hx hb dL_law_1576 ?_
    refine x_sld K X hS h3 dL_law_1577 ?_
    refine lv_aload_n hx hb dL_law_1578 rfl (lv_at hl 3 rfl) ?_
    have kx := e1_L_sweep l D ca ar ag z hl0 P G (wM am ca M) ao O a1 a2 a3 ht H.size
    refine x_callSW K hA hZ X kx hl.1 5 q998 q999 q86 q1000 hs_L_sweep ⟨⟨(Nat.le_of_ble_eq_true rfl), (Nat.le_of_ble_eq_true rfl)⟩, rfl, rfl⟩ rfl rfl (Nat.le_of_ble_eq_true rfl) dL_law_1579 ⟨hroom.1, hroom.2⟩ rfl (fun H locs X => ?_)
    refine lv_istore (lv' := [(5, .int 1), (0, .ref b0), (1, .ref (ag 0)), (2, .ref (am 0)), (3, .ref ao), (4, .int I)]) hx hb dL_law_1582 hl (by decide) rfl (fun ls hl => ?_)
    refine lv_aload_n hx hb dL_law_1584 rfl (lv_at hl 3 rfl) ?_
    refine lv_aload_n hx hb dL_law_1585 rfl (lv_at hl 1 rfl) ?_
    refine lv_iload hx hb dL_law_1586 (lv_at hl 5 rfl) ?_
    refine lv_iconst (v := 1) hx hb dL_law_1588 (by decide) ?_
    refine lv_iadd hx hb dL_law_1589 ?_
    refine x_sld K X hS h1 dL_law_1590 ?_
    refine lv_aload_n hx hb dL_law_1591 rfl (lv_at hl 1 rfl) ?_
    refine lv_iload hx hb dL_law_1592 (lv_at hl 5 rfl) ?_
    refine lv_iconst (v := 2) hx hb dL_law_1594 (by decide) ?_
    refine lv_iadd hx hb dL_law_1595 ?_
    refine x_sld K X hS h2 dL_law_1596 ?_
    refine lv_aload_n hx hb dL_law_1597 rfl (lv_at hl 1 rfl) ?_
    refine lv_iload hx hb dL_law_1598 (lv_at hl 5 rfl) ?_
    refine lv_iconst (v := 3) hx hb dL_law_1600 (by decide) ?_
    refine lv_iadd hx hb dL_law_1601 ?_
    refine x_sld K X hS h3 dL_law_1602 ?_
    have X := X.perm wL_swap
    have kx := m_X8_sweep l D ca am n2 M (wC ar ag ca P G ++ [(ao, oc ca O)]) a1 a2 a3 b M' h8 H.size
    refine x_callVw K hA X kx hl.1 3 q1840 q1841 q1842 q97 q1843 hv_X8_sweep ⟨⟨(Nat.le_of_ble_eq_true rfl), (Nat.le_of_ble_eq_true rfl)⟩, rfl, rfl⟩ pl_modo rfl rfl rfl rfl (Nat.le_of_ble_eq_true rfl) dL_law_1603 ⟨(by show cells + 1 + 0 ≤ 601024; omega), (by show slots + 6 + 0 ≤ 7293034; omega)⟩ rfl (fun H locs X => ?_)
    have X := X.perm wL_swap.symm
    refine lv_istore (lv' := [(6, .int b), (5, .int 1), (0, .ref b0), (1, .ref (ag 0)), (2, .ref (am 0)), (3, .ref ao), (4, .int I)]) hx hb dL_law_1606 hl (by decide) rfl (fun ls hl => ?_)
    refine lv_aload_n hx hb dL_law_1608 rfl (lv_at hl 4 rfl) ?_
    have X := X.perm wL_swap
    have kx := m_X8_thrown l D ca am M' (wC ar ag ca P G ++ [(ao, oc ca O)]) 1 hT H.size
    refine x_callVw K hA X kx hl.1 0 q1380 q1381 q1382 q97 q1383 hv_X8_thrown ⟨⟨(Nat.le_of_ble_eq_true rfl), (Nat.le_of_ble_eq_true rfl)⟩, rfl, rfl⟩ pl_modo rfl rfl rfl rfl (Nat.le_of_ble_eq_true rfl) dL_law_1609 ⟨(by show cells + 1 + 0 ≤ 601024; omega), (by show slots + 6 + 0 ≤ 7293034; omega)⟩ rfl (fun H locs X => ?_)
    have X := X.perm wL_swap.symm
    refine lv_iload hx hb dL_law_1612 (lv_at hl 1 rfl) ?_
    refine lv_icmp_eq (tgt := 1619) hx hb dL_law_1614 (by decide) (fun _ => ?_) (fun c1 => absurd rfl c1)
    refine lv_iload hx hb dL_law_1619 (lv_at hl 1 rfl) ?_
    refine lv_if_ne (tgt := 1636) hx hb dL_law_1621 (by decide) (fun _ => ?_) (fun c1 => absurd c1 (by decide))
    refine lv_goto (tgt := 2302) hx hb dL_law_1636 (by decide) ?_
    exact kk P G M' O H locs ls hI X (lv_sub hl [2, 3, 4, 5, 6] rfl)
  · skip
    obtain ⟨n2, b, M', ht, h8, hT, hI⟩ := hok
    refine lv_aload_n hx hb dL_law_1559 rfl (lv_at hl 1 rfl) ?_
    refine lv_aload_n hx hb dL_law_1560 rfl (lv_at hl 0 rfl) ?_
    refine lv_iload hx hb dL_law_1561 (lv_at hl 4 rfl) ?_
    refine lv_iconst (v := 1) hx hb dL_law_1563 (by decide) ?_
    refine lv_iadd hx hb dL_law_1564 ?_
    refine x_sld K X hS h1 dL_law_1565 ?_
    refine lv_aload_n hx hb dL_law_1566 rfl (lv_at hl 0 rfl) ?_
    refine lv_iload hx hb dL_law_1567 (lv_at hl 4 rfl) ?_
    refine lv_iconst (v := 2) hx hb dL_law_1569 (by decide) ?_
    refine lv_iadd hx hb dL_law_1570 ?_
    refine x_sld K X hS h2 dL_law_1571 ?_
    refine lv_aload_n hx hb dL_law_1572 rfl (lv_at hl 0 rfl) ?_
    refine lv_iload hx hb dL_law_1573 (lv_at hl 4 rfl) ?_
    refine lv_iconst (v := 3) hx hb dL_law_1575 (by decide) ?_
    refine lv_iadd hx hb dL_law_1576 ?_
    refine x_sld K X hS h3 dL_law_1577 ?_
    refine lv_aload_n hx hb dL_law_1578 rfl (lv_at hl 3 rfl) ?_
    have kx := e2_L_sweep l D ca ar ag z hl0 P G (wM am ca M) ao O a1 a2 a3 ht H.size
    refine x_callSW K hA hZ X kx hl.1 5 q998 q999 q86 q1000 hs_L_sweep ⟨⟨(Nat.le_of_ble_eq_true rfl), (Nat.le_of_ble_eq_true rfl)⟩, rfl, rfl⟩ rfl rfl (Nat.le_of_ble_eq_true rfl) dL_law_1579 ⟨hroom.1, hroom.2⟩ rfl (fun H locs X => ?_)
    refine lv_istore (lv' := [(5, .int 2), (0, .ref b0), (1, .ref (ag 0)), (2, .ref (am 0)), (3, .ref ao), (4, .int I)]) hx hb dL_law_1582 hl (by decide) rfl (fun ls hl => ?_)
    refine lv_aload_n hx hb dL_law_1584 rfl (lv_at hl 3 rfl) ?_
    refine lv_aload_n hx hb dL_law_1585 rfl (lv_at hl 1 rfl) ?_
    refine lv_iload hx hb dL_law_1586 (lv_at hl 5 rfl) ?_
    refine lv_iconst (v := 1) hx hb dL_law_1588 (by decide) ?_
    refine lv_iadd hx hb dL_law_1589 ?_
    refine x_sld K X hS h1 dL_law_1590 ?_
    refine lv_aload_n hx hb dL_law_1591 rfl (lv_at hl 1 rfl) ?_
    refine lv_iload hx hb dL_law_1592 (lv_at hl 5 rfl) ?_
    refine lv_iconst (v := 2) hx hb dL_law_1594 (by decide) ?_
    refine lv_iadd hx hb dL_law_1595 ?_
    refine x_sld K X hS h2 dL_law_1596 ?_
    refine lv_aload_n hx hb dL_law_1597 rfl (lv_at hl 1 rfl) ?_
    refine lv_iload hx hb dL_law_1598 (lv_at hl 5 rfl) ?_
    refine lv_iconst (v := 3) hx hb dL_law_1600 (by decide) ?_
    refine lv_iadd hx hb dL_law_1601 ?_
    refine x_sld K X hS h3 dL_law_1602 ?_
    have X := X.perm wL_swap
    have kx := m_X8_sweep l D ca am n2 M (wC ar ag ca P G ++ [(ao, oc ca O)]) a1 a2 a3 b M' h8 H.size
    refine x_callVw K hA X kx hl.1 3 q1840 q1841 q1842 q97 q1843 hv_X8_sweep ⟨⟨(Nat.le_of_ble_eq_true rfl), (Nat.le_of_ble_eq_true rfl)⟩, rfl, rfl⟩ pl_modo rfl rfl rfl rfl (Nat.le_of_ble_eq_true rfl) dL_law_1603 ⟨(by show cells + 1 + 0 ≤ 601024; omega), (by show slots + 6 + 0 ≤ 7293034; omega)⟩ rfl (fun H locs X => ?_)
    have X := X.perm wL_swap.symm
    refine lv_istore (lv' := [(6, .int b), (5, .int 2), (0, .ref b0), (1, .ref (ag 0)), (2, .ref (am 0)), (3, .ref ao), (4, .int I)]) hx hb dL_law_1606 hl (by decide) rfl (fun ls hl => ?_)
    refine lv_aload_n hx hb dL_law_1608 rfl (lv_at hl 4 rfl) ?_
    have X := X.perm wL_swap
    have kx := m_X8_thrown l D ca am M' (wC ar ag ca P G ++ [(ao, oc ca O)]) 2 hT H.size
    refine x_callVw K hA X kx hl.1 0 q1380 q1381 q1382 q97 q1383 hv_X8_thrown ⟨⟨(Nat.le_of_ble_eq_true rfl), (Nat.le_of_ble_eq_true rfl)⟩, rfl, rfl⟩ pl_modo rfl rfl rfl rfl (Nat.le_of_ble_eq_true rfl) dL_law_1609 ⟨(by show cells + 1 + 0 ≤ 601024; omega), (by show slots + 6 + 0 ≤ 7293034; omega)⟩ rfl (fun H locs X => ?_)
    have X := X.perm wL_swap.symm
    refine lv_iload hx hb dL_law_1612 (lv_at hl 1 rfl) ?_
    refine lv_icmp_eq (tgt := 1619) hx hb dL_law_1614 (by decide) (fun _ => ?_) (fun c1 => absurd rfl c1)
    refine lv_iload hx hb dL_law_1619 (lv_at hl 1 rfl) ?_
    refine lv_if_ne (tgt := 1636) hx hb dL_law_1621 (by decide) (fun _ => ?_) (fun c1 => absurd c1 (by decide))
    refine lv_goto (tgt := 2302) hx hb dL_law_1636 (by decide) ?_
    exact kk P G M' O H locs ls hI X (lv_sub hl [2, 3, 4, 5, 6] rfl)
-- case 26
def OK_setSlant (Inv : RowsS → GlbS → RowS → Prop) (P : RowsS) (G : GlbS) (M : RowS) (a1 : Int32) (a2 : Int32) : Prop :=
  (∃ (n : Nat) (res : Int32) (P' : RowsS) (G' : GlbS) (n2 : Nat) (b : Int32) (M' : RowS), f_X7_setSlant n P G a1 a2 = some (res, P', G') ∧ f_X8_setSlant n2 M a1 a2 = some (b, M') ∧ f_X8_thrown M' = 0 ∧ res.toInt64 = b.toInt64 ∧ Inv P' G' M') ∨
  (∃ (n2 : Nat) (b : Int32) (M' : RowS), t_X7_setSlant P G a1 a2 = some 1 ∧ f_X8_setSlant n2 M a1 a2 = some (b, M') ∧ f_X8_thrown M' = 1 ∧ Inv P G M') ∨
  (∃ (n2 : Nat) (b : Int32) (M' : RowS), t_X7_setSlant P G a1 a2 = some 2 ∧ f_X8_setSlant n2 M a1 a2 = some (b, M') ∧ f_X8_thrown M' = 2 ∧ Inv P G M')
set_option maxRecDepth 100000 in
set_option maxHeartbeats 4000000 in
theorem k_setSlant {p : Program} {l : Launch} {e : Env} {s : State} {m : MethodId} {args : Array Value} {below : List Frame} {meth : Method} {c : Code} {Q : State → Prop} {D : va_G} {A : Nat → Prop} {ar : Nat → Nat → Nat} {ag : Nat → Nat} {ca : Nat → ClassId} {am : Nat → Nat} {ao b0 L : Nat} {xs : Nat → Int32} {I : Int32} {Inv : RowsS → GlbS → RowS → Prop} {cells slots : Nat} {z : ZG} (K : MC D ca p s m args meth c cL_law 9 RL) (hl0 : l.stackTraces = false) (hA : ∀ q, s.heap.size ≤ q → A q) (hZ : ZF z A s s.heap) (hS : va_X b0 L xs s s.heap ∧ b0 < s.heap.size ∧ ¬ A b0) (hroom : cells + 1 ≤ 601024 ∧ slots + 6 ≤ 7293034) {a1 : Int32} {a2 : Int32} (h1 : vp_in (I + 1) L ∧ xs (I + 1).toNatClampNeg = a1) (h2 : vp_in (I + 2) L ∧ xs (I + 2).toNatClampNeg = a2) {P : RowsS} {G : GlbS} {M : RowS} {O : Nat → Int64} {H : Heap} {locs : List Loc} {ls : Array Slot} (hok : OK_setSlant Inv P G M a1 a2) (X : RX D A (wL ar ag ca am P G M ao O) s.heap H locs) (hl : lv_has ls 9 [(0, .ref b0), (1, .ref (ag 0)), (2, .ref (am 0)), (3, .ref ao), (4, .int I)]) (kk : LwAt p l e s m args below meth c Q D A ar ag ca am ao b0 I Inv (cells + 1) (slots + 6) 2302) : W p l e room_1 s m args below meth c H locs cells slots Q (F0 m 1639 ls []) := by
  have hx := K.1
  have hb := K.2.1
  unfold OK_setSlant at hok
  rcases hok with hok | hok | hok
  · skip
    obtain ⟨n, res, P', G', n2, b, M', h7, h8, hT, hv, hI⟩ := hok
    refine lv_aload_n hx hb dL_law_1639 rfl (lv_at hl 1 rfl) ?_
    refine lv_aload_n hx hb dL_law_1640 rfl (lv_at hl 0 rfl) ?_
    refine lv_iload hx hb dL_law_1641 (lv_at hl 4 rfl) ?_
    refine lv_iconst (v := 1) hx hb dL_law_1643 (by decide) ?_
    refine lv_iadd hx hb dL_law_1644 ?_
    refine x_sld K X hS h1 dL_law_1645 ?_
    refine lv_aload_n hx hb dL_law_1646 rfl (lv_at hl 0 rfl) ?_
    refine lv_iload hx hb dL_law_1647 (lv_at hl 4 rfl) ?_
    refine lv_iconst (v := 2) hx hb dL_law_1649 (by decide) ?_
    refine lv_iadd hx hb dL_law_1650 ?_
    refine x_sld K X hS h2 dL_law_1651 ?_
    refine lv_aload_n hx hb dL_law_1652 rfl (lv_at hl 3 rfl) ?_
    have kx := n_L_setSlant l D ca ar ag z n P G (wM am ca M) ao O a1 a2 res P' G' h7 H.size
    refine x_callSW K hA hZ X kx hl.1 4 q1005 q1006 q86 q1007 hs_L_setSlant ⟨⟨(Nat.le_of_ble_eq_true rfl), (Nat.le_of_ble_eq_true rfl)⟩, rfl, rfl⟩ rfl rfl (Nat.le_of_ble_eq_true rfl) dL_law_1653 ⟨hroom.1, hroom.2⟩ rfl (fun H locs X => ?_)
    refine lv_istore (lv' := [(5, .int 0), (0, .ref b0), (1, .ref (ag 0)), (2, .ref (am 0)), (3, .ref ao), (4, .int I)]) hx hb dL_law_1656 hl (by decide) rfl (fun ls hl => ?_)
    refine lv_aload_n hx hb dL_law_1658 rfl (lv_at hl 3 rfl) ?_
    refine lv_aload_n hx hb dL_law_1659 rfl (lv_at hl 1 rfl) ?_
    refine lv_iload hx hb dL_law_1660 (lv_at hl 5 rfl) ?_
    refine lv_iconst (v := 1) hx hb dL_law_1662 (by decide) ?_
    refine lv_iadd hx hb dL_law_1663 ?_
    refine x_sld K X hS h1 dL_law_1664 ?_
    refine lv_aload_n hx hb dL_law_1665 rfl (lv_at hl 1 rfl) ?_
    refine lv_iload hx hb dL_law_1666 (lv_at hl 5 rfl) ?_
    refine lv_iconst (v := 2) hx hb dL_law_1668 (by decide) ?_
    refine lv_iadd hx hb dL_law_1669 ?_
    refine x_sld K X hS h2 dL_law_1670 ?_
    have X := X.perm wL_swap
    have kx := m_X8_setSlant l D ca am n2 M (wC ar ag ca P' G' ++ [(ao, oc ca (va_up O 0 res.toInt64))]) a1 a2 b M' h8 H.size
    refine x_callVw K hA X kx hl.1 2 q1845 q1846 q1847 q97 q1848 hv_X8_setSlant ⟨⟨(Nat.le_of_ble_eq_true rfl), (Nat.le_of_ble_eq_true rfl)⟩, rfl, rfl⟩ pl_modo rfl rfl rfl rfl (Nat.le_of_ble_eq_true rfl) dL_law_1671 ⟨(by show cells + 1 + 0 ≤ 601024; omega), (by show slots + 6 + 0 ≤ 7293034; omega)⟩ rfl (fun H locs X => ?_)
    have X := X.perm wL_swap.symm
    refine lv_istore (lv' := [(6, .int b), (5, .int 0), (0, .ref b0), (1, .ref (ag 0)), (2, .ref (am 0)), (3, .ref ao), (4, .int I)]) hx hb dL_law_1674 hl (by decide) rfl (fun ls hl => ?_)
    refine lv_aload_n hx hb dL_law_1676 rfl (lv_at hl 4 rfl) ?_
    have X := X.perm wL_swap
    have kx := m_X8_thrown l D ca am M' (wC ar ag ca P' G' ++ [(ao, oc ca (va_up O 0 res.toInt64))]) 0 hT H.size
    refine x_callVw K hA X kx hl.1 0 q1380 q1381 q1382 q97 q1383 hv_X8_thrown ⟨⟨(Nat.le_of_ble_eq_true rfl), (Nat.le_of_ble_eq_true rfl)⟩, rfl, rfl⟩ pl_modo rfl rfl rfl rfl (Nat.le_of_ble_eq_true rfl) dL_law_1677 ⟨(by show cells + 1 + 0 ≤ 601024; omega), (by show slots + 6 + 0 ≤ 7293034; omega)⟩ rfl (fun H locs X => ?_)
    have X := X.perm wL_swap.symm
    refine lv_iload hx hb dL_law_1680 (lv_at hl 1 rfl) ?_
    refine lv_icmp_eq (tgt := 1687) hx hb dL_law_1682 (by decide) (fun _ => ?_) (fun c1 => absurd rfl c1)
    refine lv_iload hx hb dL_law_1687 (lv_at hl 1 rfl) ?_
    refine lv_if_ne (tgt := 1704) hx hb dL_law_1689 (by decide) (fun c1 => absurd rfl c1) (fun _ => ?_)
    refine lv_aload_n hx hb dL_law_1692 rfl (lv_at hl 5 rfl) ?_
    refine lv_iconst (v := 0) hx hb dL_law_1693 (by decide) ?_
    refine x_lald K X (241 + (wM am ca M').length) ctor_atw (vp_in_iff.mpr (by decide)) dL_law_1694 ?_
    refine lv_iload hx hb dL_law_1695 (lv_at hl 0 rfl) ?_
    refine lv_i2l hx hb dL_law_1697 rfl ?_
    refine w_beq (tgt := 1704) K dL_law_1698 dL_law_1699 (by decide) (fun _ => ?_) (fun c1 => absurd (by rw [show (0 : Int32).toNatClampNeg = 0 from rfl, va_up_self]; exact hv) c1)
    refine lv_goto (tgt := 2302) hx hb dL_law_1704 (by decide) ?_
    exact kk P' G' M' (va_up O 0 res.toInt64) H locs ls hI X (lv_sub hl [2, 3, 4, 5, 6] rfl)
  · skip
    obtain ⟨n2, b, M', ht, h8, hT, hI⟩ := hok
    refine lv_aload_n hx hb dL_law_1639 rfl (lv_at hl 1 rfl) ?_
    refine lv_aload_n hx hb dL_law_1640 rfl (lv_at hl 0 rfl) ?_
    refine lv_iload hx hb dL_law_1641 (lv_at hl 4 rfl) ?_
    refine lv_iconst (v := 1) hx hb dL_law_1643 (by decide) ?_
    refine lv_iadd hx hb dL_law_1644 ?_
    refine x_sld K X hS h1 dL_law_1645 ?_
    refine lv_aload_n hx hb dL_law_1646 rfl (lv_at hl 0 rfl) ?_
    refine lv_iload hx hb dL_law_1647 (lv_at hl 4 rfl) ?_
    refine lv_iconst (v := 2) hx hb dL_law_1649 (by decide) ?_
    refine lv_iadd hx hb dL_law_1650 ?_
    refine x_sld K X hS h2 dL_law_1651 ?_
    refine lv_aload_n hx hb dL_law_1652 rfl (lv_at hl 3 rfl) ?_
    have kx := e1_L_setSlant l D ca ar ag z hl0 P G (wM am ca M) ao O a1 a2 ht H.size
    refine x_callSW K hA hZ X kx hl.1 4 q1005 q1006 q86 q1007 hs_L_setSlant ⟨⟨(Nat.le_of_ble_eq_true rfl), (Nat.le_of_ble_eq_true rfl)⟩, rfl, rfl⟩ rfl rfl (Nat.le_of_ble_eq_true rfl) dL_law_1653 ⟨hroom.1, hroom.2⟩ rfl (fun H locs X => ?_)
    refine lv_istore (lv' := [(5, .int 1), (0, .ref b0), (1, .ref (ag 0)), (2, .ref (am 0)), (3, .ref ao), (4, .int I)]) hx hb dL_law_1656 hl (by decide) rfl (fun ls hl => ?_)
    refine lv_aload_n hx hb dL_law_1658 rfl (lv_at hl 3 rfl) ?_
    refine lv_aload_n hx hb dL_law_1659 rfl (lv_at hl 1 rfl) ?_
    refine lv_iload hx hb dL_law_1660 (lv_at hl 5 rfl) ?_
    refine lv_iconst (v := 1) hx hb dL_law_1662 (by decide) ?_
    refine lv_iadd hx hb dL_law_1663 ?_
    refine x_sld K X hS h1 dL_law_1664 ?_
    refine lv_aload_n hx hb dL_law_1665 rfl (lv_at hl 1 rfl) ?_
    refine lv_iload hx hb dL_law_1666 (lv_at hl 5 rfl) ?_
    refine lv_iconst (v := 2) hx hb dL_law_1668 (by decide) ?_
    refine lv_iadd hx hb dL_law_1669 ?_
    refine x_sld K X hS h2 dL_law_1670 ?_
    have X := X.perm wL_swap
    have kx := m_X8_setSlant l D ca am n2 M (wC ar ag ca P G ++ [(ao, oc ca O)]) a1 a2 b M' h8 H.size
    refine x_callVw K hA X kx hl.1 2 q1845 q1846 q1847 q97 q1848 hv_X8_setSlant ⟨⟨(Nat.le_of_ble_eq_true rfl), (Nat.le_of_ble_eq_true rfl)⟩, rfl, rfl⟩ pl_modo rfl rfl rfl rfl (Nat.le_of_ble_eq_true rfl) dL_law_1671 ⟨(by show cells + 1 + 0 ≤ 601024; omega), (by show slots + 6 + 0 ≤ 7293034; omega)⟩ rfl (fun H locs X => ?_)
    have X := X.perm wL_swap.symm
    refine lv_istore (lv' := [(6, .int b), (5, .int 1), (0, .ref b0), (1, .ref (ag 0)), (2, .ref (am 0)), (3, .ref ao), (4, .int I)]) hx hb dL_law_1674 hl (by decide) rfl (fun ls hl => ?_)
    refine lv_aload_n hx hb dL_law_1676 rfl (lv_at hl 4 rfl) ?_
    have X := X.perm wL_swap
    have kx := m_X8_thrown l D ca am M' (wC ar ag ca P G ++ [(ao, oc ca O)]) 1 hT H.size
    refine x_callVw K hA X kx hl.1 0 q1380 q1381 q1382 q97 q1383 hv_X8_thrown ⟨⟨(Nat.le_of_ble_eq_true rfl), (Nat.le_of_ble_eq_true rfl)⟩, rfl, rfl⟩ pl_modo rfl rfl rfl rfl (Nat.le_of_ble_eq_true rfl) dL_law_1677 ⟨(by show cells + 1 + 0 ≤ 601024; omega), (by show slots + 6 + 0 ≤ 7293034; omega)⟩ rfl (fun H locs X => ?_)
    have X := X.perm wL_swap.symm
    refine lv_iload hx hb dL_law_1680 (lv_at hl 1 rfl) ?_
    refine lv_icmp_eq (tgt := 1687) hx hb dL_law_1682 (by decide) (fun _ => ?_) (fun c1 => absurd rfl c1)
    refine lv_iload hx hb dL_law_1687 (lv_at hl 1 rfl) ?_
    refine lv_if_ne (tgt := 1704) hx hb dL_law_1689 (by decide) (fun _ => ?_) (fun c1 => absurd c1 (by decide))
    refine lv_goto (tgt := 2302) hx hb dL_law_1704 (by decide) ?_
    exact kk P G M' O H locs ls hI X (lv_sub hl [2, 3, 4, 5, 6] rfl)
  · skip
    obtain ⟨n2, b, M', ht, h8, hT, hI⟩ := hok
    refine lv_aload_n hx hb dL_law_1639 rfl (lv_at hl 1 rfl) ?_
    refine lv_aload_n hx hb dL_law_1640 rfl (lv_at hl 0 rfl) ?_
    refine lv_iload hx hb dL_law_1641 (lv_at hl 4 rfl) ?_
    refine lv_iconst (v := 1) hx hb dL_law_1643 (by decide) ?_
    refine lv_iadd hx hb dL_law_1644 ?_
    refine x_sld K X hS h1 dL_law_1645 ?_
    refine lv_aload_n hx hb dL_law_1646 rfl (lv_at hl 0 rfl) ?_
    refine lv_iload hx hb dL_law_1647 (lv_at hl 4 rfl) ?_
    refine lv_iconst (v := 2) hx hb dL_law_1649 (by decide) ?_
    refine lv_iadd hx hb dL_law_1650 ?_
    refine x_sld K X hS h2 dL_law_1651 ?_
    refine lv_aload_n hx hb dL_law_1652 rfl (lv_at hl 3 rfl) ?_
    have kx := e2_L_setSlant l D ca ar ag z hl0 P G (wM am ca M) ao O a1 a2 ht H.size
    refine x_callSW K hA hZ X kx hl.1 4 q1005 q1006 q86 q1007 hs_L_setSlant ⟨⟨(Nat.le_of_ble_eq_true rfl), (Nat.le_of_ble_eq_true rfl)⟩, rfl, rfl⟩ rfl rfl (Nat.le_of_ble_eq_true rfl) dL_law_1653 ⟨hroom.1, hroom.2⟩ rfl (fun H locs X => ?_)
    refine lv_istore (lv' := [(5, .int 2), (0, .ref b0), (1, .ref (ag 0)), (2, .ref (am 0)), (3, .ref ao), (4, .int I)]) hx hb dL_law_1656 hl (by decide) rfl (fun ls hl => ?_)
    refine lv_aload_n hx hb dL_law_1658 rfl (lv_at hl 3 rfl) ?_
    refine lv_aload_n hx hb dL_law_1659 rfl (lv_at hl 1 rfl) ?_
    refine lv_iload hx hb dL_law_1660 (lv_at hl 5 rfl) ?_
    refine lv_iconst (v := 1) hx hb dL_law_1662 (by decide) ?_
    refine lv_iadd hx hb dL_law_1663 ?_
    refine x_sld K X hS h1 dL_law_1664 ?_
    refine lv_aload_n hx hb dL_law_1665 rfl (lv_at hl 1 rfl) ?_
    refine lv_iload hx hb dL_law_1666 (lv_at hl 5 rfl) ?_
    refine lv_iconst (v := 2) hx hb dL_law_1668 (by decide) ?_
    refine lv_iadd hx hb dL_law_1669 ?_
    refine x_sld K X hS h2 dL_law_1670 ?_
    have X := X.perm wL_swap
    have kx := m_X8_setSlant l D ca am n2 M (wC ar ag ca P G ++ [(ao, oc ca O)]) a1 a2 b M' h8 H.size
    refine x_callVw K hA X kx hl.1 2 q1845 q1846 q1847 q97 q1848 hv_X8_setSlant ⟨⟨(Nat.le_of_ble_eq_true rfl), (Nat.le_of_ble_eq_true rfl)⟩, rfl, rfl⟩ pl_modo rfl rfl rfl rfl (Nat.le_of_ble_eq_true rfl) dL_law_1671 ⟨(by show cells + 1 + 0 ≤ 601024; omega), (by show slots + 6 + 0 ≤ 7293034; omega)⟩ rfl (fun H locs X => ?_)
    have X := X.perm wL_swap.symm
    refine lv_istore (lv' := [(6, .int b), (5, .int 2), (0, .ref b0), (1, .ref (ag 0)), (2, .ref (am 0)), (3, .ref ao), (4, .int I)]) hx hb dL_law_1674 hl (by decide) rfl (fun ls hl => ?_)
    refine lv_aload_n hx hb dL_law_1676 rfl (lv_at hl 4 rfl) ?_
    have X := X.perm wL_swap
    have kx := m_X8_thrown l D ca am M' (wC ar ag ca P G ++ [(ao, oc ca O)]) 2 hT H.size
    refine x_callVw K hA X kx hl.1 0 q1380 q1381 q1382 q97 q1383 hv_X8_thrown ⟨⟨(Nat.le_of_ble_eq_true rfl), (Nat.le_of_ble_eq_true rfl)⟩, rfl, rfl⟩ pl_modo rfl rfl rfl rfl (Nat.le_of_ble_eq_true rfl) dL_law_1677 ⟨(by show cells + 1 + 0 ≤ 601024; omega), (by show slots + 6 + 0 ≤ 7293034; omega)⟩ rfl (fun H locs X => ?_)
    have X := X.perm wL_swap.symm
    refine lv_iload hx hb dL_law_1680 (lv_at hl 1 rfl) ?_
    refine lv_icmp_eq (tgt := 1687) hx hb dL_law_1682 (by decide) (fun _ => ?_) (fun c1 => absurd rfl c1)
    refine lv_iload hx hb dL_law_1687 (lv_at hl 1 rfl) ?_
    refine lv_if_ne (tgt := 1704) hx hb dL_law_1689 (by decide) (fun _ => ?_) (fun c1 => absurd c1 (by decide))
    refine lv_goto (tgt := 2302) hx hb dL_law_1704 (by decide) ?_
    exact kk P G M' O H locs ls hI X (lv_sub hl [2, 3, 4, 5, 6] rfl)
-- case 27
def OK_setMark (Inv : RowsS → GlbS → RowS → Prop) (P : RowsS) (G : GlbS) (M : RowS) (a1 : Int32) : Prop :=
  (∃ (n : Nat) (res : Int32) (P' : RowsS) (G' : GlbS) (n2 : Nat) (b : Int32) (M' : RowS), f_X7_setMark n P G a1 = some (res, P', G') ∧ f_X8_setMark n2 M a1 = some (b, M') ∧ f_X8_thrown M' = 0 ∧ res.toInt64 = b.toInt64 ∧ Inv P' G' M') ∨
  (∃ (n2 : Nat) (b : Int32) (M' : RowS), t_X7_setMark P G a1 = some 1 ∧ f_X8_setMark n2 M a1 = some (b, M') ∧ f_X8_thrown M' = 1 ∧ Inv P G M')
set_option maxRecDepth 100000 in
set_option maxHeartbeats 4000000 in
theorem k_setMark {p : Program} {l : Launch} {e : Env} {s : State} {m : MethodId} {args : Array Value} {below : List Frame} {meth : Method} {c : Code} {Q : State → Prop} {D : va_G} {A : Nat → Prop} {ar : Nat → Nat → Nat} {ag : Nat → Nat} {ca : Nat → ClassId} {am : Nat → Nat} {ao b0 L : Nat} {xs : Nat → Int32} {I : Int32} {Inv : RowsS → GlbS → RowS → Prop} {cells slots : Nat} {z : ZG} (K : MC D ca p s m args meth c cL_law 9 RL) (hl0 : l.stackTraces = false) (hA : ∀ q, s.heap.size ≤ q → A q) (hZ : ZF z A s s.heap) (hS : va_X b0 L xs s s.heap ∧ b0 < s.heap.size ∧ ¬ A b0) (hroom : cells + 1 ≤ 601024 ∧ slots + 6 ≤ 7293034) {a1 : Int32} (h1 : vp_in (I + 1) L ∧ xs (I + 1).toNatClampNeg = a1) {P : RowsS} {G : GlbS} {M : RowS} {O : Nat → Int64} {H : Heap} {locs : List Loc} {ls : Array Slot} (hok : OK_setMark Inv P G M a1) (X : RX D A (wL ar ag ca am P G M ao O) s.heap H locs) (hl : lv_has ls 9 [(0, .ref b0), (1, .ref (ag 0)), (2, .ref (am 0)), (3, .ref ao), (4, .int I)]) (kk : LwAt p l e s m args below meth c Q D A ar ag ca am ao b0 I Inv (cells + 1) (slots + 6) 2302) : W p l e room_1 s m args below meth c H locs cells slots Q (F0 m 1707 ls []) := by
  have hx := K.1
  have hb := K.2.1
  unfold OK_setMark at hok
  rcases hok with hok | hok
  · skip
    obtain ⟨n, res, P', G', n2, b, M', h7, h8, hT, hv, hI⟩ := hok
    refine lv_aload_n hx hb dL_law_1707 rfl (lv_at hl 1 rfl) ?_
    refine lv_aload_n hx hb dL_law_1708 rfl (lv_at hl 0 rfl) ?_
    refine lv_iload hx hb dL_law_1709 (lv_at hl 4 rfl) ?_
    refine lv_iconst (v := 1) hx hb dL_law_1711 (by decide) ?_
    refine lv_iadd hx hb dL_law_1712 ?_
    refine x_sld K X hS h1 dL_law_1713 ?_
    refine lv_aload_n hx hb dL_law_1714 rfl (lv_at hl 3 rfl) ?_
    have kx := n_L_setMark l D ca ar ag z n P G (wM am ca M) ao O a1 res P' G' h7 H.size
    refine x_callSW K hA hZ X kx hl.1 3 q1012 q1013 q86 q1014 hs_L_setMark ⟨⟨(Nat.le_of_ble_eq_true rfl), (Nat.le_of_ble_eq_true rfl)⟩, rfl, rfl⟩ rfl rfl (Nat.le_of_ble_eq_true rfl) dL_law_1715 ⟨hroom.1, hroom.2⟩ rfl (fun H locs X => ?_)
    refine lv_istore (lv' := [(5, .int 0), (0, .ref b0), (1, .ref (ag 0)), (2, .ref (am 0)), (3, .ref ao), (4, .int I)]) hx hb dL_law_1718 hl (by decide) rfl (fun ls hl => ?_)
    refine lv_aload_n hx hb dL_law_1720 rfl (lv_at hl 3 rfl) ?_
    refine lv_aload_n hx hb dL_law_1721 rfl (lv_at hl 1 rfl) ?_
    refine lv_iload hx hb dL_law_1722 (lv_at hl 5 rfl) ?_
    refine lv_iconst (v := 1) hx hb dL_law_1724 (by decide) ?_
    refine lv_iadd hx hb dL_law_1725 ?_
    refine x_sld K X hS h1 dL_law_1726 ?_
    have X := X.perm wL_swap
    have kx := m_X8_setMark l D ca am n2 M (wC ar ag ca P' G' ++ [(ao, oc ca (va_up O 0 res.toInt64))]) a1 b M' h8 H.size
    refine x_callVw K hA X kx hl.1 1 q1852 q1853 q1854 q97 q1855 hv_X8_setMark ⟨⟨(Nat.le_of_ble_eq_true rfl), (Nat.le_of_ble_eq_true rfl)⟩, rfl, rfl⟩ pl_modo rfl rfl rfl rfl (Nat.le_of_ble_eq_true rfl) dL_law_1727 ⟨(by show cells + 1 + 0 ≤ 601024; omega), (by show slots + 6 + 0 ≤ 7293034; omega)⟩ rfl (fun H locs X => ?_)
    have X := X.perm wL_swap.symm
    refine lv_istore (lv' := [(6, .int b), (5, .int 0), (0, .ref b0), (1, .ref (ag 0)), (2, .ref (am 0)), (3, .ref ao), (4, .int I)]) hx hb dL_law_1730 hl (by decide) rfl (fun ls hl => ?_)
    refine lv_aload_n hx hb dL_law_1732 rfl (lv_at hl 4 rfl) ?_
    have X := X.perm wL_swap
    have kx := m_X8_thrown l D ca am M' (wC ar ag ca P' G' ++ [(ao, oc ca (va_up O 0 res.toInt64))]) 0 hT H.size
    refine x_callVw K hA X kx hl.1 0 q1380 q1381 q1382 q97 q1383 hv_X8_thrown ⟨⟨(Nat.le_of_ble_eq_true rfl), (Nat.le_of_ble_eq_true rfl)⟩, rfl, rfl⟩ pl_modo rfl rfl rfl rfl (Nat.le_of_ble_eq_true rfl) dL_law_1733 ⟨(by show cells + 1 + 0 ≤ 601024; omega), (by show slots + 6 + 0 ≤ 7293034; omega)⟩ rfl (fun H locs X => ?_)
    have X := X.perm wL_swap.symm
    refine lv_iload hx hb dL_law_1736 (lv_at hl 1 rfl) ?_
    refine lv_icmp_eq (tgt := 1743) hx hb dL_law_1738 (by decide) (fun _ => ?_) (fun c1 => absurd rfl c1)
    refine lv_iload hx hb dL_law_1743 (lv_at hl 1 rfl) ?_
    refine lv_if_ne (tgt := 1760) hx hb dL_law_1745 (by decide) (fun c1 => absurd rfl c1) (fun _ => ?_)
    refine lv_aload_n hx hb dL_law_1748 rfl (lv_at hl 5 rfl) ?_
    refine lv_iconst (v := 0) hx hb dL_law_1749 (by decide) ?_
    refine x_lald K X (241 + (wM am ca M').length) ctor_atw (vp_in_iff.mpr (by decide)) dL_law_1750 ?_
    refine lv_iload hx hb dL_law_1751 (lv_at hl 0 rfl) ?_
    refine lv_i2l hx hb dL_law_1753 rfl ?_
    refine w_beq (tgt := 1760) K dL_law_1754 dL_law_1755 (by decide) (fun _ => ?_) (fun c1 => absurd (by rw [show (0 : Int32).toNatClampNeg = 0 from rfl, va_up_self]; exact hv) c1)
    refine lv_goto (tgt := 2302) hx hb dL_law_1760 (by decide) ?_
    exact kk P' G' M' (va_up O 0 res.toInt64) H locs ls hI X (lv_sub hl [2, 3, 4, 5, 6] rfl)
  · skip
    obtain ⟨n2, b, M', ht, h8, hT, hI⟩ := hok
    refine lv_aload_n hx hb dL_law_1707 rfl (lv_at hl 1 rfl) ?_
    refine lv_aload_n hx hb dL_law_1708 rfl (lv_at hl 0 rfl) ?_
    refine lv_iload hx hb dL_law_1709 (lv_at hl 4 rfl) ?_
    refine lv_iconst (v := 1) hx hb dL_law_1711 (by decide) ?_
    refine lv_iadd hx hb dL_law_1712 ?_
    refine x_sld K X hS h1 dL_law_1713 ?_
    refine lv_aload_n hx hb dL_law_1714 rfl (lv_at hl 3 rfl) ?_
    have kx := e1_L_setMark l D ca ar ag z hl0 P G (wM am ca M) ao O a1 ht H.size
    refine x_callSW K hA hZ X kx hl.1 3 q1012 q1013 q86 q1014 hs_L_setMark ⟨⟨(Nat.le_of_ble_eq_true rfl), (Nat.le_of_ble_eq_true rfl)⟩, rfl, rfl⟩ rfl rfl (Nat.le_of_ble_eq_true rfl) dL_law_1715 ⟨hroom.1, hroom.2⟩ rfl (fun H locs X => ?_)
    refine lv_istore (lv' := [(5, .int 1), (0, .ref b0), (1, .ref (ag 0)), (2, .ref (am 0)), (3, .ref ao), (4, .int I)]) hx hb dL_law_1718 hl (by decide) rfl (fun ls hl => ?_)
    refine lv_aload_n hx hb dL_law_1720 rfl (lv_at hl 3 rfl) ?_
    refine lv_aload_n hx hb dL_law_1721 rfl (lv_at hl 1 rfl) ?_
    refine lv_iload hx hb dL_law_1722 (lv_at hl 5 rfl) ?_
    refine lv_iconst (v := 1) hx hb dL_law_1724 (by decide) ?_
    refine lv_iadd hx hb dL_law_1725 ?_
    refine x_sld K X hS h1 dL_law_1726 ?_
    have X := X.perm wL_swap
    have kx := m_X8_setMark l D ca am n2 M (wC ar ag ca P G ++ [(ao, oc ca O)]) a1 b M' h8 H.size
    refine x_callVw K hA X kx hl.1 1 q1852 q1853 q1854 q97 q1855 hv_X8_setMark ⟨⟨(Nat.le_of_ble_eq_true rfl), (Nat.le_of_ble_eq_true rfl)⟩, rfl, rfl⟩ pl_modo rfl rfl rfl rfl (Nat.le_of_ble_eq_true rfl) dL_law_1727 ⟨(by show cells + 1 + 0 ≤ 601024; omega), (by show slots + 6 + 0 ≤ 7293034; omega)⟩ rfl (fun H locs X => ?_)
    have X := X.perm wL_swap.symm
    refine lv_istore (lv' := [(6, .int b), (5, .int 1), (0, .ref b0), (1, .ref (ag 0)), (2, .ref (am 0)), (3, .ref ao), (4, .int I)]) hx hb dL_law_1730 hl (by decide) rfl (fun ls hl => ?_)
    refine lv_aload_n hx hb dL_law_1732 rfl (lv_at hl 4 rfl) ?_
    have X := X.perm wL_swap
    have kx := m_X8_thrown l D ca am M' (wC ar ag ca P G ++ [(ao, oc ca O)]) 1 hT H.size
    refine x_callVw K hA X kx hl.1 0 q1380 q1381 q1382 q97 q1383 hv_X8_thrown ⟨⟨(Nat.le_of_ble_eq_true rfl), (Nat.le_of_ble_eq_true rfl)⟩, rfl, rfl⟩ pl_modo rfl rfl rfl rfl (Nat.le_of_ble_eq_true rfl) dL_law_1733 ⟨(by show cells + 1 + 0 ≤ 601024; omega), (by show slots + 6 + 0 ≤ 7293034; omega)⟩ rfl (fun H locs X => ?_)
    have X := X.perm wL_swap.symm
    refine lv_iload hx hb dL_law_1736 (lv_at hl 1 rfl) ?_
    refine lv_icmp_eq (tgt := 1743) hx hb dL_law_1738 (by decide) (fun _ => ?_) (fun c1 => absurd rfl c1)
    refine lv_iload hx hb dL_law_1743 (lv_at hl 1 rfl) ?_
    refine lv_if_ne (tgt := 1760) hx hb dL_law_1745 (by decide) (fun _ => ?_) (fun c1 => absurd c1 (by decide))
    refine lv_goto (tgt := 2302) hx hb dL_law_1760 (by decide) ?_
    exact kk P G M' O H locs ls hI X (lv_sub hl [2, 3, 4, 5, 6] rfl)
-- case 28
def OK_setCurve (Inv : RowsS → GlbS → RowS → Prop) (P : RowsS) (G : GlbS) (M : RowS) (a1 : Int32) (a2 : Int32) : Prop :=
  (∃ (n : Nat) (res : Int32) (P' : RowsS) (G' : GlbS) (n2 : Nat) (b : Int32) (M' : RowS), f_X7_setCurve n P G a1 a2 = some (res, P', G') ∧ f_X8_setCurve n2 M a1 a2 = some (b, M') ∧ f_X8_thrown M' = 0 ∧ res.toInt64 = b.toInt64 ∧ Inv P' G' M') ∨
  (∃ (n2 : Nat) (b : Int32) (M' : RowS), t_X7_setCurve P G a1 a2 = some 1 ∧ f_X8_setCurve n2 M a1 a2 = some (b, M') ∧ f_X8_thrown M' = 1 ∧ Inv P G M') ∨
  (∃ (n2 : Nat) (b : Int32) (M' : RowS), t_X7_setCurve P G a1 a2 = some 2 ∧ f_X8_setCurve n2 M a1 a2 = some (b, M') ∧ f_X8_thrown M' = 2 ∧ Inv P G M')
set_option maxRecDepth 100000 in
set_option maxHeartbeats 4000000 in
theorem k_setCurve {p : Program} {l : Launch} {e : Env} {s : State} {m : MethodId} {args : Array Value} {below : List Frame} {meth : Method} {c : Code} {Q : State → Prop} {D : va_G} {A : Nat → Prop} {ar : Nat → Nat → Nat} {ag : Nat → Nat} {ca : Nat → ClassId} {am : Nat → Nat} {ao b0 L : Nat} {xs : Nat → Int32} {I : Int32} {Inv : RowsS → GlbS → RowS → Prop} {cells slots : Nat} {z : ZG} (K : MC D ca p s m args meth c cL_law 9 RL) (hl0 : l.stackTraces = false) (hA : ∀ q, s.heap.size ≤ q → A q) (hZ : ZF z A s s.heap) (hS : va_X b0 L xs s s.heap ∧ b0 < s.heap.size ∧ ¬ A b0) (hroom : cells + 1 ≤ 601024 ∧ slots + 6 ≤ 7293034) {a1 : Int32} {a2 : Int32} (h1 : vp_in (I + 1) L ∧ xs (I + 1).toNatClampNeg = a1) (h2 : vp_in (I + 2) L ∧ xs (I + 2).toNatClampNeg = a2) {P : RowsS} {G : GlbS} {M : RowS} {O : Nat → Int64} {H : Heap} {locs : List Loc} {ls : Array Slot} (hok : OK_setCurve Inv P G M a1 a2) (X : RX D A (wL ar ag ca am P G M ao O) s.heap H locs) (hl : lv_has ls 9 [(0, .ref b0), (1, .ref (ag 0)), (2, .ref (am 0)), (3, .ref ao), (4, .int I)]) (kk : LwAt p l e s m args below meth c Q D A ar ag ca am ao b0 I Inv (cells + 1) (slots + 6) 2302) : W p l e room_1 s m args below meth c H locs cells slots Q (F0 m 1763 ls []) := by
  have hx := K.1
  have hb := K.2.1
  unfold OK_setCurve at hok
  rcases hok with hok | hok | hok
  · skip
    obtain ⟨n, res, P', G', n2, b, M', h7, h8, hT, hv, hI⟩ := hok
    refine lv_aload_n hx hb dL_law_1763 rfl (lv_at hl 1 rfl) ?_
    refine lv_aload_n hx hb dL_law_1764 rfl (lv_at hl 0 rfl) ?_
    refine lv_iload hx hb dL_law_1765 (lv_at hl 4 rfl) ?_
    refine lv_iconst (v := 1) hx hb dL_law_1767 (by decide) ?_
    refine lv_iadd hx hb dL_law_1768 ?_
    refine x_sld K X hS h1 dL_law_1769 ?_
    refine lv_aload_n hx hb dL_law_1770 rfl (lv_at hl 0 rfl) ?_
    refine lv_iload hx hb dL_law_1771 (lv_at hl 4 rfl) ?_
    refine lv_iconst (v := 2) hx hb dL_law_1773 (by decide) ?_
    refine lv_iadd hx hb dL_law_1774 ?_
    refine x_sld K X hS h2 dL_law_1775 ?_
    refine lv_aload_n hx hb dL_law_1776 rfl (lv_at hl 3 rfl) ?_
    have kx := n_L_setCurve l D ca ar ag z n P G (wM am ca M) ao O a1 a2 res P' G' h7 H.size
    refine x_callSW K hA hZ X kx hl.1 4 q1020 q1021 q86 q1022 hs_L_setCurve ⟨⟨(Nat.le_of_ble_eq_true rfl), (Nat.le_of_ble_eq_true rfl)⟩, rfl, rfl⟩ rfl rfl (Nat.le_of_ble_eq_true rfl) dL_law_1777 ⟨hroom.1, hroom.2⟩ rfl (fun H locs X => ?_)
    refine lv_istore (lv' := [(5, .int 0), (0, .ref b0), (1, .ref (ag 0)), (2, .ref (am 0)), (3, .ref ao), (4, .int I)]) hx hb dL_law_1780 hl (by decide) rfl (fun ls hl => ?_)
    refine lv_aload_n hx hb dL_law_1782 rfl (lv_at hl 3 rfl) ?_
    refine lv_aload_n hx hb dL_law_1783 rfl (lv_at hl 1 rfl) ?_
    refine lv_iload hx hb dL_law_1784 (lv_at hl 5 rfl) ?_
    refine lv_iconst (v := 1) hx hb dL_law_1786 (by decide) ?_
    refine lv_iadd hx hb dL_law_1787 ?_
    refine x_sld K X hS h1 dL_law_1788 ?_
    refine lv_aload_n hx hb dL_law_1789 rfl (lv_at hl 1 rfl) ?_
    refine lv_iload hx hb dL_law_1790 (lv_at hl 5 rfl) ?_
    refine lv_iconst (v := 2) hx hb dL_law_1792 (by decide) ?_
    refine lv_iadd hx hb dL_law_1793 ?_
    refine x_sld K X hS h2 dL_law_1794 ?_
    have X := X.perm wL_swap
    have kx := m_X8_setCurve l D ca am n2 M (wC ar ag ca P' G' ++ [(ao, oc ca (va_up O 0 res.toInt64))]) a1 a2 b M' h8 H.size
    refine x_callVw K hA X kx hl.1 2 q1857 q1858 q1859 q97 q1860 hv_X8_setCurve ⟨⟨(Nat.le_of_ble_eq_true rfl), (Nat.le_of_ble_eq_true rfl)⟩, rfl, rfl⟩ pl_modo rfl rfl rfl rfl (Nat.le_of_ble_eq_true rfl) dL_law_1795 ⟨(by show cells + 1 + 0 ≤ 601024; omega), (by show slots + 6 + 0 ≤ 7293034; omega)⟩ rfl (fun H locs X => ?_)
    have X := X.perm wL_swap.symm
    refine lv_istore (lv' := [(6, .int b), (5, .int 0), (0, .ref b0), (1, .ref (ag 0)), (2, .ref (am 0)), (3, .ref ao), (4, .int I)]) hx hb dL_law_1798 hl (by decide) rfl (fun ls hl => ?_)
    refine lv_aload_n hx hb dL_law_1800 rfl (lv_at hl 4 rfl) ?_
    have X := X.perm wL_swap
    have kx := m_X8_thrown l D ca am M' (wC ar ag ca P' G' ++ [(ao, oc ca (va_up O 0 res.toInt64))]) 0 hT H.size
    refine x_callVw K hA X kx hl.1 0 q1380 q1381 q1382 q97 q1383 hv_X8_thrown ⟨⟨(Nat.le_of_ble_eq_true rfl), (Nat.le_of_ble_eq_true rfl)⟩, rfl, rfl⟩ pl_modo rfl rfl rfl rfl (Nat.le_of_ble_eq_true rfl) dL_law_1801 ⟨(by show cells + 1 + 0 ≤ 601024; omega), (by show slots + 6 + 0 ≤ 7293034; omega)⟩ rfl (fun H locs X => ?_)
    have X := X.perm wL_swap.symm
    refine lv_iload hx hb dL_law_1804 (lv_at hl 1 rfl) ?_
    refine lv_icmp_eq (tgt := 1811) hx hb dL_law_1806 (by decide) (fun _ => ?_) (fun c1 => absurd rfl c1)
    refine lv_iload hx hb dL_law_1811 (lv_at hl 1 rfl) ?_
    refine lv_if_ne (tgt := 1828) hx hb dL_law_1813 (by decide) (fun c1 => absurd rfl c1) (fun _ => ?_)
    refine lv_aload_n hx hb dL_law_1816 rfl (lv_at hl 5 rfl) ?_
    refine lv_iconst (v := 0) hx hb dL_law_1817 (by decide) ?_
    refine x_lald K X (241 + (wM am ca M').length) ctor_atw (vp_in_iff.mpr (by decide)) dL_law_1818 ?_
    refine lv_iload hx hb dL_law_1819 (lv_at hl 0 rfl) ?_
    refine lv_i2l hx hb dL_law_1821 rfl ?_
    refine w_beq (tgt := 1828) K dL_law_1822 dL_law_1823 (by decide) (fun _ => ?_) (fun c1 => absurd (by rw [show (0 : Int32).toNatClampNeg = 0 from rfl, va_up_self]; exact hv) c1)
    refine lv_goto (tgt := 2302) hx hb dL_law_1828 (by decide) ?_
    exact kk P' G' M' (va_up O 0 res.toInt64) H locs ls hI X (lv_sub hl [2, 3, 4, 5, 6] rfl)
  · skip
    obtain ⟨n2, b, M', ht, h8, hT, hI⟩ := hok
    refine lv_aload_n hx hb dL_law_1763 rfl (lv_at hl 1 rfl) ?_
    refine lv_aload_n hx hb dL_law_1764 rfl (lv_at hl 0 rfl) ?_
    refine lv_iload hx hb dL_law_1765 (lv_at hl 4 rfl) ?_
    refine lv_iconst (v := 1) hx hb dL_law_1767 (by decide) ?_
    refine lv_iadd hx hb dL_law_1768 ?_
    refine x_sld K X hS h1 dL_law_1769 ?_
    refine lv_aload_n hx hb dL_law_1770 rfl (lv_at hl 0 rfl) ?_
    refine lv_iload hx hb dL_law_1771 (lv_at hl 4 rfl) ?_
    refine lv_iconst (v := 2) hx hb dL_law_1773 (by decide) ?_
    refine lv_iadd hx hb dL_law_1774 ?_
    refine x_sld K X hS h2 dL_law_1775 ?_
    refine lv_aload_n hx hb dL_law_1776 rfl (lv_at hl 3 rfl) ?_
    have kx := e1_L_setCurve l D ca ar ag z hl0 P G (wM am ca M) ao O a1 a2 ht H.size
    refine x_callSW K hA hZ X kx hl.1 4 q1020 q1021 q86 q1022 hs_L_setCurve ⟨⟨(Nat.le_of_ble_eq_true rfl), (Nat.le_of_ble_eq_true rfl)⟩, rfl, rfl⟩ rfl rfl (Nat.le_of_ble_eq_true rfl) dL_law_1777 ⟨hroom.1, hroom.2⟩ rfl (fun H locs X => ?_)
    refine lv_istore (lv' := [(5, .int 1), (0, .ref b0), (1, .ref (ag 0)), (2, .ref (am 0)), (3, .ref ao), (4, .int I)]) hx hb dL_law_1780 hl (by decide) rfl (fun ls hl => ?_)
    refine lv_aload_n hx hb dL_law_1782 rfl (lv_at hl 3 rfl) ?_
    refine lv_aload_n hx hb dL_law_1783 rfl (lv_at hl 1 rfl) ?_
    refine lv_iload hx hb dL_law_1784 (lv_at hl 5 rfl) ?_
    refine lv_iconst (v := 1) hx hb dL_law_1786 (by decide) ?_
    refine lv_iadd hx hb dL_law_1787 ?_
    refine x_sld K X hS h1 dL_law_1788 ?_
    refine lv_aload_n hx hb dL_law_1789 rfl (lv_at hl 1 rfl) ?_
    refine lv_iload hx hb dL_law_1790 (lv_at hl 5 rfl) ?_
    refine lv_iconst (v := 2) hx hb dL_law_1792 (by decide) ?_
    refine lv_iadd hx hb dL_law_1793 ?_
    refine x_sld K X hS h2 dL_law_1794 ?_
    have X := X.perm wL_swap
    have kx := m_X8_setCurve l D ca am n2 M (wC ar ag ca P G ++ [(ao, oc ca O)]) a1 a2 b M' h8 H.size
    refine x_callVw K hA X kx hl.1 2 q1857 q1858 q1859 q97 q1860 hv_X8_setCurve ⟨⟨(Nat.le_of_ble_eq_true rfl), (Nat.le_of_ble_eq_true rfl)⟩, rfl, rfl⟩ pl_modo rfl rfl rfl rfl (Nat.le_of_ble_eq_true rfl) dL_law_1795 ⟨(by show cells + 1 + 0 ≤ 601024; omega), (by show slots + 6 + 0 ≤ 7293034; omega)⟩ rfl (fun H locs X => ?_)
    have X := X.perm wL_swap.symm
    refine lv_istore (lv' := [(6, .int b), (5, .int 1), (0, .ref b0), (1, .ref (ag 0)), (2, .ref (am 0)), (3, .ref ao), (4, .int I)]) hx hb dL_law_1798 hl (by decide) rfl (fun ls hl => ?_)
    refine lv_aload_n hx hb dL_law_1800 rfl (lv_at hl 4 rfl) ?_
    have X := X.perm wL_swap
    have kx := m_X8_thrown l D ca am M' (wC ar ag ca P G ++ [(ao, oc ca O)]) 1 hT H.size
    refine x_callVw K hA X kx hl.1 0 q1380 q1381 q1382 q97 q1383 hv_X8_thrown ⟨⟨(Nat.le_of_ble_eq_true rfl), (Nat.le_of_ble_eq_true rfl)⟩, rfl, rfl⟩ pl_modo rfl rfl rfl rfl (Nat.le_of_ble_eq_true rfl) dL_law_1801 ⟨(by show cells + 1 + 0 ≤ 601024; omega), (by show slots + 6 + 0 ≤ 7293034; omega)⟩ rfl (fun H locs X => ?_)
    have X := X.perm wL_swap.symm
    refine lv_iload hx hb dL_law_1804 (lv_at hl 1 rfl) ?_
    refine lv_icmp_eq (tgt := 1811) hx hb dL_law_1806 (by decide) (fun _ => ?_) (fun c1 => absurd rfl c1)
    refine lv_iload hx hb dL_law_1811 (lv_at hl 1 rfl) ?_
    refine lv_if_ne (tgt := 1828) hx hb dL_law_1813 (by decide) (fun _ => ?_) (fun c1 => absurd c1 (by decide))
    refine lv_goto (tgt := 2302) hx hb dL_law_1828 (by decide) ?_
    exact kk P G M' O H locs ls hI X (lv_sub hl [2, 3, 4, 5, 6] rfl)
  · skip
    obtain ⟨n2, b, M', ht, h8, hT, hI⟩ := hok
    refine lv_aload_n hx hb dL_law_1763 rfl (lv_at hl 1 rfl) ?_
    refine lv_aload_n hx hb dL_law_1764 rfl (lv_at hl 0 rfl) ?_
    refine lv_iload hx hb dL_law_1765 (lv_at hl 4 rfl) ?_
    refine lv_iconst (v := 1) hx hb dL_law_1767 (by decide) ?_
    refine lv_iadd hx hb dL_law_1768 ?_
    refine x_sld K X hS h1 dL_law_1769 ?_
    refine lv_aload_n hx hb dL_law_1770 rfl (lv_at hl 0 rfl) ?_
    refine lv_iload hx hb dL_law_1771 (lv_at hl 4 rfl) ?_
    refine lv_iconst (v := 2) hx hb dL_law_1773 (by decide) ?_
    refine lv_iadd hx hb dL_law_1774 ?_
    refine x_sld K X hS h2 dL_law_1775 ?_
    refine lv_aload_n hx hb dL_law_1776 rfl (lv_at hl 3 rfl) ?_
    have kx := e2_L_setCurve l D ca ar ag z hl0 P G (wM am ca M) ao O a1 a2 ht H.size
    refine x_callSW K hA hZ X kx hl.1 4 q1020 q1021 q86 q1022 hs_L_setCurve ⟨⟨(Nat.le_of_ble_eq_true rfl), (Nat.le_of_ble_eq_true rfl)⟩, rfl, rfl⟩ rfl rfl (Nat.le_of_ble_eq_true rfl) dL_law_1777 ⟨hroom.1, hroom.2⟩ rfl (fun H locs X => ?_)
    refine lv_istore (lv' := [(5, .int 2), (0, .ref b0), (1, .ref (ag 0)), (2, .ref (am 0)), (3, .ref ao), (4, .int I)]) hx hb dL_law_1780 hl (by decide) rfl (fun ls hl => ?_)
    refine lv_aload_n hx hb dL_law_1782 rfl (lv_at hl 3 rfl) ?_
    refine lv_aload_n hx hb dL_law_1783 rfl (lv_at hl 1 rfl) ?_
    refine lv_iload hx hb dL_law_1784 (lv_at hl 5 rfl) ?_
    refine lv_iconst (v := 1) hx hb dL_law_1786 (by decide) ?_
    refine lv_iadd hx hb dL_law_1787 ?_
    refine x_sld K X hS h1 dL_law_1788 ?_
    refine lv_aload_n hx hb dL_law_1789 rfl (lv_at hl 1 rfl) ?_
    refine lv_iload hx hb dL_law_1790 (lv_at hl 5 rfl) ?_
    refine lv_iconst (v := 2) hx hb dL_law_1792 (by decide) ?_
    refine lv_iadd hx hb dL_law_1793 ?_
    refine x_sld K X hS h2 dL_law_1794 ?_
    have X := X.perm wL_swap
    have kx := m_X8_setCurve l D ca am n2 M (wC ar ag ca P G ++ [(ao, oc ca O)]) a1 a2 b M' h8 H.size
    refine x_callVw K hA X kx hl.1 2 q1857 q1858 q1859 q97 q1860 hv_X8_setCurve ⟨⟨(Nat.le_of_ble_eq_true rfl), (Nat.le_of_ble_eq_true rfl)⟩, rfl, rfl⟩ pl_modo rfl rfl rfl rfl (Nat.le_of_ble_eq_true rfl) dL_law_1795 ⟨(by show cells + 1 + 0 ≤ 601024; omega), (by show slots + 6 + 0 ≤ 7293034; omega)⟩ rfl (fun H locs X => ?_)
    have X := X.perm wL_swap.symm
    refine lv_istore (lv' := [(6, .int b), (5, .int 2), (0, .ref b0), (1, .ref (ag 0)), (2, .ref (am 0)), (3, .ref ao), (4, .int I)]) hx hb dL_law_1798 hl (by decide) rfl (fun ls hl => ?_)
    refine lv_aload_n hx hb dL_law_1800 rfl (lv_at hl 4 rfl) ?_
    have X := X.perm wL_swap
    have kx := m_X8_thrown l D ca am M' (wC ar ag ca P G ++ [(ao, oc ca O)]) 2 hT H.size
    refine x_callVw K hA X kx hl.1 0 q1380 q1381 q1382 q97 q1383 hv_X8_thrown ⟨⟨(Nat.le_of_ble_eq_true rfl), (Nat.le_of_ble_eq_true rfl)⟩, rfl, rfl⟩ pl_modo rfl rfl rfl rfl (Nat.le_of_ble_eq_true rfl) dL_law_1801 ⟨(by show cells + 1 + 0 ≤ 601024; omega), (by show slots + 6 + 0 ≤ 7293034; omega)⟩ rfl (fun H locs X => ?_)
    have X := X.perm wL_swap.symm
    refine lv_iload hx hb dL_law_1804 (lv_at hl 1 rfl) ?_
    refine lv_icmp_eq (tgt := 1811) hx hb dL_law_1806 (by decide) (fun _ => ?_) (fun c1 => absurd rfl c1)
    refine lv_iload hx hb dL_law_1811 (lv_at hl 1 rfl) ?_
    refine lv_if_ne (tgt := 1828) hx hb dL_law_1813 (by decide) (fun _ => ?_) (fun c1 => absurd c1 (by decide))
    refine lv_goto (tgt := 2302) hx hb dL_law_1828 (by decide) ?_
    exact kk P G M' O H locs ls hI X (lv_sub hl [2, 3, 4, 5, 6] rfl)
-- case 29
def OK_mend (Inv : RowsS → GlbS → RowS → Prop) (P : RowsS) (G : GlbS) (M : RowS) (a1 : Int32) : Prop :=
  (∃ (n : Nat) (res : Int32) (P' : RowsS) (G' : GlbS) (n2 : Nat) (b : Int32) (M' : RowS), f_X7_mend n P G a1 = some (res, P', G') ∧ f_X8_mend n2 M a1 = some (b, M') ∧ f_X8_thrown M' = 0 ∧ res.toInt64 = b.toInt64 ∧ Inv P' G' M') ∨
  (∃ (n2 : Nat) (b : Int32) (M' : RowS), t_X7_mend P G a1 = some 1 ∧ f_X8_mend n2 M a1 = some (b, M') ∧ f_X8_thrown M' = 1 ∧ Inv P G M')
set_option maxRecDepth 100000 in
set_option maxHeartbeats 4000000 in
theorem k_mend {p : Program} {l : Launch} {e : Env} {s : State} {m : MethodId} {args : Array Value} {below : List Frame} {meth : Method} {c : Code} {Q : State → Prop} {D : va_G} {A : Nat → Prop} {ar : Nat → Nat → Nat} {ag : Nat → Nat} {ca : Nat → ClassId} {am : Nat → Nat} {ao b0 L : Nat} {xs : Nat → Int32} {I : Int32} {Inv : RowsS → GlbS → RowS → Prop} {cells slots : Nat} {z : ZG} (K : MC D ca p s m args meth c cL_law 9 RL) (hl0 : l.stackTraces = false) (hA : ∀ q, s.heap.size ≤ q → A q) (hZ : ZF z A s s.heap) (hS : va_X b0 L xs s s.heap ∧ b0 < s.heap.size ∧ ¬ A b0) (hroom : cells + 1 ≤ 601024 ∧ slots + 6 ≤ 7293034) {a1 : Int32} (h1 : vp_in (I + 1) L ∧ xs (I + 1).toNatClampNeg = a1) {P : RowsS} {G : GlbS} {M : RowS} {O : Nat → Int64} {H : Heap} {locs : List Loc} {ls : Array Slot} (hok : OK_mend Inv P G M a1) (X : RX D A (wL ar ag ca am P G M ao O) s.heap H locs) (hl : lv_has ls 9 [(0, .ref b0), (1, .ref (ag 0)), (2, .ref (am 0)), (3, .ref ao), (4, .int I)]) (kk : LwAt p l e s m args below meth c Q D A ar ag ca am ao b0 I Inv (cells + 1) (slots + 6) 2302) : W p l e room_1 s m args below meth c H locs cells slots Q (F0 m 1831 ls []) := by
  have hx := K.1
  have hb := K.2.1
  unfold OK_mend at hok
  rcases hok with hok | hok
  · skip
    obtain ⟨n, res, P', G', n2, b, M', h7, h8, hT, hv, hI⟩ := hok
    refine lv_aload_n hx hb dL_law_1831 rfl (lv_at hl 1 rfl) ?_
    refine lv_aload_n hx hb dL_law_1832 rfl (lv_at hl 0 rfl) ?_
    refine lv_iload hx hb dL_law_1833 (lv_at hl 4 rfl) ?_
    refine lv_iconst (v := 1) hx hb dL_law_1835 (by decide) ?_
    refine lv_iadd hx hb dL_law_1836 ?_
    refine x_sld K X hS h1 dL_law_1837 ?_
    refine lv_aload_n hx hb dL_law_1838 rfl (lv_at hl 3 rfl) ?_
    have kx := n_L_mend l D ca ar ag z n P G (wM am ca M) ao O a1 res P' G' h7 H.size
    refine x_callSW K hA hZ X kx hl.1 3 q1027 q1028 q86 q1029 hs_L_mend ⟨⟨(Nat.le_of_ble_eq_true rfl), (Nat.le_of_ble_eq_true rfl)⟩, rfl, rfl⟩ rfl rfl (Nat.le_of_ble_eq_true rfl) dL_law_1839 ⟨hroom.1, hroom.2⟩ rfl (fun H locs X => ?_)
    refine lv_istore (lv' := [(5, .int 0), (0, .ref b0), (1, .ref (ag 0)), (2, .ref (am 0)), (3, .ref ao), (4, .int I)]) hx hb dL_law_1842 hl (by decide) rfl (fun ls hl => ?_)
    refine lv_aload_n hx hb dL_law_1844 rfl (lv_at hl 3 rfl) ?_
    refine lv_aload_n hx hb dL_law_1845 rfl (lv_at hl 1 rfl) ?_
    refine lv_iload hx hb dL_law_1846 (lv_at hl 5 rfl) ?_
    refine lv_iconst (v := 1) hx hb dL_law_1848 (by decide) ?_
    refine lv_iadd hx hb dL_law_1849 ?_
    refine x_sld K X hS h1 dL_law_1850 ?_
    have X := X.perm wL_swap
    have kx := m_X8_mend l D ca am n2 M (wC ar ag ca P' G' ++ [(ao, oc ca (va_up O 0 res.toInt64))]) a1 b M' h8 H.size
    refine x_callVw K hA X kx hl.1 1 q1861 q1862 q1863 q97 q1864 hv_X8_mend ⟨⟨(Nat.le_of_ble_eq_true rfl), (Nat.le_of_ble_eq_true rfl)⟩, rfl, rfl⟩ pl_modo rfl rfl rfl rfl (Nat.le_of_ble_eq_true rfl) dL_law_1851 ⟨(by show cells + 1 + 0 ≤ 601024; omega), (by show slots + 6 + 0 ≤ 7293034; omega)⟩ rfl (fun H locs X => ?_)
    have X := X.perm wL_swap.symm
    refine lv_istore (lv' := [(6, .int b), (5, .int 0), (0, .ref b0), (1, .ref (ag 0)), (2, .ref (am 0)), (3, .ref ao), (4, .int I)]) hx hb dL_law_1854 hl (by decide) rfl (fun ls hl => ?_)
    refine lv_aload_n hx hb dL_law_1856 rfl (lv_at hl 4 rfl) ?_
    have X := X.perm wL_swap
    have kx := m_X8_thrown l D ca am M' (wC ar ag ca P' G' ++ [(ao, oc ca (va_up O 0 res.toInt64))]) 0 hT H.size
    refine x_callVw K hA X kx hl.1 0 q1380 q1381 q1382 q97 q1383 hv_X8_thrown ⟨⟨(Nat.le_of_ble_eq_true rfl), (Nat.le_of_ble_eq_true rfl)⟩, rfl, rfl⟩ pl_modo rfl rfl rfl rfl (Nat.le_of_ble_eq_true rfl) dL_law_1857 ⟨(by show cells + 1 + 0 ≤ 601024; omega), (by show slots + 6 + 0 ≤ 7293034; omega)⟩ rfl (fun H locs X => ?_)
    have X := X.perm wL_swap.symm
    refine lv_iload hx hb dL_law_1860 (lv_at hl 1 rfl) ?_
    refine lv_icmp_eq (tgt := 1867) hx hb dL_law_1862 (by decide) (fun _ => ?_) (fun c1 => absurd rfl c1)
    refine lv_iload hx hb dL_law_1867 (lv_at hl 1 rfl) ?_
    refine lv_if_ne (tgt := 1884) hx hb dL_law_1869 (by decide) (fun c1 => absurd rfl c1) (fun _ => ?_)
    refine lv_aload_n hx hb dL_law_1872 rfl (lv_at hl 5 rfl) ?_
    refine lv_iconst (v := 0) hx hb dL_law_1873 (by decide) ?_
    refine x_lald K X (241 + (wM am ca M').length) ctor_atw (vp_in_iff.mpr (by decide)) dL_law_1874 ?_
    refine lv_iload hx hb dL_law_1875 (lv_at hl 0 rfl) ?_
    refine lv_i2l hx hb dL_law_1877 rfl ?_
    refine w_beq (tgt := 1884) K dL_law_1878 dL_law_1879 (by decide) (fun _ => ?_) (fun c1 => absurd (by rw [show (0 : Int32).toNatClampNeg = 0 from rfl, va_up_self]; exact hv) c1)
    refine lv_goto (tgt := 2302) hx hb dL_law_1884 (by decide) ?_
    exact kk P' G' M' (va_up O 0 res.toInt64) H locs ls hI X (lv_sub hl [2, 3, 4, 5, 6] rfl)
  · skip
    obtain ⟨n2, b, M', ht, h8, hT, hI⟩ := hok
    refine lv_aload_n hx hb dL_law_1831 rfl (lv_at hl 1 rfl) ?_
    refine lv_aload_n hx hb dL_law_1832 rfl (lv_at hl 0 rfl) ?_
    refine lv_iload hx hb dL_law_1833 (lv_at hl 4 rfl) ?_
    refine lv_iconst (v := 1) hx hb dL_law_1835 (by decide) ?_
    refine lv_iadd hx hb dL_law_1836 ?_
    refine x_sld K X hS h1 dL_law_1837 ?_
    refine lv_aload_n hx hb dL_law_1838 rfl (lv_at hl 3 rfl) ?_
    have kx := e1_L_mend l D ca ar ag z hl0 P G (wM am ca M) ao O a1 ht H.size
    refine x_callSW K hA hZ X kx hl.1 3 q1027 q1028 q86 q1029 hs_L_mend ⟨⟨(Nat.le_of_ble_eq_true rfl), (Nat.le_of_ble_eq_true rfl)⟩, rfl, rfl⟩ rfl rfl (Nat.le_of_ble_eq_true rfl) dL_law_1839 ⟨hroom.1, hroom.2⟩ rfl (fun H locs X => ?_)
    refine lv_istore (lv' := [(5, .int 1), (0, .ref b0), (1, .ref (ag 0)), (2, .ref (am 0)), (3, .ref ao), (4, .int I)]) hx hb dL_law_1842 hl (by decide) rfl (fun ls hl => ?_)
    refine lv_aload_n hx hb dL_law_1844 rfl (lv_at hl 3 rfl) ?_
    refine lv_aload_n hx hb dL_law_1845 rfl (lv_at hl 1 rfl) ?_
    refine lv_iload hx hb dL_law_1846 (lv_at hl 5 rfl) ?_
    refine lv_iconst (v := 1) hx hb dL_law_1848 (by decide) ?_
    refine lv_iadd hx hb dL_law_1849 ?_
    refine x_sld K X hS h1 dL_law_1850 ?_
    have X := X.perm wL_swap
    have kx := m_X8_mend l D ca am n2 M (wC ar ag ca P G ++ [(ao, oc ca O)]) a1 b M' h8 H.size
    refine x_callVw K hA X kx hl.1 1 q1861 q1862 q1863 q97 q1864 hv_X8_mend ⟨⟨(Nat.le_of_ble_eq_true rfl), (Nat.le_of_ble_eq_true rfl)⟩, rfl, rfl⟩ pl_modo rfl rfl rfl rfl (Nat.le_of_ble_eq_true rfl) dL_law_1851 ⟨(by show cells + 1 + 0 ≤ 601024; omega), (by show slots + 6 + 0 ≤ 7293034; omega)⟩ rfl (fun H locs X => ?_)
    have X := X.perm wL_swap.symm
    refine lv_istore (lv' := [(6, .int b), (5, .int 1), (0, .ref b0), (1, .ref (ag 0)), (2, .ref (am 0)), (3, .ref ao), (4, .int I)]) hx hb dL_law_1854 hl (by decide) rfl (fun ls hl => ?_)
    refine lv_aload_n hx hb dL_law_1856 rfl (lv_at hl 4 rfl) ?_
    have X := X.perm wL_swap
    have kx := m_X8_thrown l D ca am M' (wC ar ag ca P G ++ [(ao, oc ca O)]) 1 hT H.size
    refine x_callVw K hA X kx hl.1 0 q1380 q1381 q1382 q97 q1383 hv_X8_thrown ⟨⟨(Nat.le_of_ble_eq_true rfl), (Nat.le_of_ble_eq_true rfl)⟩, rfl, rfl⟩ pl_modo rfl rfl rfl rfl (Nat.le_of_ble_eq_true rfl) dL_law_1857 ⟨(by show cells + 1 + 0 ≤ 601024; omega), (by show slots + 6 + 0 ≤ 7293034; omega)⟩ rfl (fun H locs X => ?_)
    have X := X.perm wL_swap.symm
    refine lv_iload hx hb dL_law_1860 (lv_at hl 1 rfl) ?_
    refine lv_icmp_eq (tgt := 1867) hx hb dL_law_1862 (by decide) (fun _ => ?_) (fun c1 => absurd rfl c1)
    refine lv_iload hx hb dL_law_1867 (lv_at hl 1 rfl) ?_
    refine lv_if_ne (tgt := 1884) hx hb dL_law_1869 (by decide) (fun _ => ?_) (fun c1 => absurd c1 (by decide))
    refine lv_goto (tgt := 2302) hx hb dL_law_1884 (by decide) ?_
    exact kk P G M' O H locs ls hI X (lv_sub hl [2, 3, 4, 5, 6] rfl)
-- case 30
def OK_refill (Inv : RowsS → GlbS → RowS → Prop) (P : RowsS) (G : GlbS) (M : RowS) (a1 : Int32) (a2 : Int32) : Prop :=
  (∃ (n : Nat) (res : Int32) (P' : RowsS) (G' : GlbS) (n2 : Nat) (b : Int32) (M' : RowS), f_X7_refill n P G a1 a2 = some (res, P', G') ∧ f_X8_refill n2 M a1 a2 = some (b, M') ∧ f_X8_thrown M' = 0 ∧ res.toInt64 = b.toInt64 ∧ Inv P' G' M') ∨
  (∃ (n2 : Nat) (b : Int32) (M' : RowS), t_X7_refill P G a1 a2 = some 1 ∧ f_X8_refill n2 M a1 a2 = some (b, M') ∧ f_X8_thrown M' = 1 ∧ Inv P G M') ∨
  (∃ (n2 : Nat) (b : Int32) (M' : RowS), t_X7_refill P G a1 a2 = some 2 ∧ f_X8_refill n2 M a1 a2 = some (b, M') ∧ f_X8_thrown M' = 2 ∧ Inv P G M')
set_option maxRecDepth 100000 in
set_option maxHeartbeats 4000000 in
theorem k_refill {p : Program} {l : Launch} {e : Env} {s : State} {m : MethodId} {args : Array Value} {below : List Frame} {meth : Method} {c : Code} {Q : State → Prop} {D : va_G} {A : Nat → Prop} {ar : Nat → Nat → Nat} {ag : Nat → Nat} {ca : Nat → ClassId} {am : Nat → Nat} {ao b0 L : Nat} {xs : Nat → Int32} {I : Int32} {Inv : RowsS → GlbS → RowS → Prop} {cells slots : Nat} {z : ZG} (K : MC D ca p s m args meth c cL_law 9 RL) (hl0 : l.stackTraces = false) (hA : ∀ q, s.heap.size ≤ q → A q) (hZ : ZF z A s s.heap) (hS : va_X b0 L xs s s.heap ∧ b0 < s.heap.size ∧ ¬ A b0) (hroom : cells + 1 ≤ 601024 ∧ slots + 6 ≤ 7293034) {a1 : Int32} {a2 : Int32} (h1 : vp_in (I + 1) L ∧ xs (I + 1).toNatClampNeg = a1) (h2 : vp_in (I + 2) L ∧ xs (I + 2).toNatClampNeg = a2) {P : RowsS} {G : GlbS} {M : RowS} {O : Nat → Int64} {H : Heap} {locs : List Loc} {ls : Array Slot} (hok : OK_refill Inv P G M a1 a2) (X : RX D A (wL ar ag ca am P G M ao O) s.heap H locs) (hl : lv_has ls 9 [(0, .ref b0), (1, .ref (ag 0)), (2, .ref (am 0)), (3, .ref ao), (4, .int I)]) (kk : LwAt p l e s m args below meth c Q D A ar ag ca am ao b0 I Inv (cells + 1) (slots + 6) 2302) : W p l e room_1 s m args below meth c H locs cells slots Q (F0 m 1887 ls []) := by
  have hx := K.1
  have hb := K.2.1
  unfold OK_refill at hok
  rcases hok with hok | hok | hok
  · skip
    obtain ⟨n, res, P', G', n2, b, M', h7, h8, hT, hv, hI⟩ := hok
    refine lv_aload_n hx hb dL_law_1887 rfl (lv_at hl 1 rfl) ?_
    refine lv_aload_n hx hb dL_law_1888 rfl (lv_at hl 0 rfl) ?_
    refine lv_iload hx hb dL_law_1889 (lv_at hl 4 rfl) ?_
    refine lv_iconst (v := 1) hx hb dL_law_1891 (by decide) ?_
    refine lv_iadd hx hb dL_law_1892 ?_
    refine x_sld K X hS h1 dL_law_1893 ?_
    refine lv_aload_n hx hb dL_law_1894 rfl (lv_at hl 0 rfl) ?_
    refine lv_iload hx hb dL_law_1895 (lv_at hl 4 rfl) ?_
    refine lv_iconst (v := 2) hx hb dL_law_1897 (by decide) ?_
    refine lv_iadd hx hb dL_law_1898 ?_
    refine x_sld K X hS h2 dL_law_1899 ?_
    refine lv_aload_n hx hb dL_law_1900 rfl (lv_at hl 3 rfl) ?_
    have kx := n_L_refill l D ca ar ag z n P G (wM am ca M) ao O a1 a2 res P' G' h7 H.size
    refine x_callSW K hA hZ X kx hl.1 4 q1034 q1035 q86 q1036 hs_L_refill ⟨⟨(Nat.le_of_ble_eq_true rfl), (Nat.le_of_ble_eq_true rfl)⟩, rfl, rfl⟩ rfl rfl (Nat.le_of_ble_eq_true rfl) dL_law_1901 ⟨hroom.1, hroom.2⟩ rfl (fun H locs X => ?_)
    refine lv_istore (lv' := [(5, .int 0), (0, .ref b0), (1, .ref (ag 0)), (2, .ref (am 0)), (3, .ref ao), (4, .int I)]) hx hb dL_law_1904 hl (by decide) rfl (fun ls hl => ?_)
    refine lv_aload_n hx hb dL_law_1906 rfl (lv_at hl 3 rfl) ?_
    refine lv_aload_n hx hb dL_law_1907 rfl (lv_at hl 1 rfl) ?_
    refine lv_iload hx hb dL_law_1908 (lv_at hl 5 rfl) ?_
    refine lv_iconst (v := 1) hx hb dL_law_1910 (by decide) ?_
    refine lv_iadd hx hb dL_law_1911 ?_
    refine x_sld K X hS h1 dL_law_1912 ?_
    refine lv_aload_n hx hb dL_law_1913 rfl (lv_at hl 1 rfl) ?_
    refine lv_iload hx hb dL_law_1914 (lv_at hl 5 rfl) ?_
    refine lv_iconst (v := 2) hx hb dL_law_1916 (by decide) ?_
    refine lv_iadd hx hb dL_law_1917 ?_
    refine x_sld K X hS h2 dL_law_1918 ?_
    have X := X.perm wL_swap
    have kx := m_X8_refill l D ca am n2 M (wC ar ag ca P' G' ++ [(ao, oc ca (va_up O 0 res.toInt64))]) a1 a2 b M' h8 H.size
    refine x_callVw K hA X kx hl.1 2 q1865 q1866 q1867 q97 q1868 hv_X8_refill ⟨⟨(Nat.le_of_ble_eq_true rfl), (Nat.le_of_ble_eq_true rfl)⟩, rfl, rfl⟩ pl_modo rfl rfl rfl rfl (Nat.le_of_ble_eq_true rfl) dL_law_1919 ⟨(by show cells + 1 + 0 ≤ 601024; omega), (by show slots + 6 + 0 ≤ 7293034; omega)⟩ rfl (fun H locs X => ?_)
    have X := X.perm wL_swap.symm
    refine lv_istore (lv' := [(6, .int b), (5, .int 0), (0, .ref b0), (1, .ref (ag 0)), (2, .ref (am 0)), (3, .ref ao), (4, .int I)]) hx hb dL_law_1922 hl (by decide) rfl (fun ls hl => ?_)
    refine lv_aload_n hx hb dL_law_1924 rfl (lv_at hl 4 rfl) ?_
    have X := X.perm wL_swap
    have kx := m_X8_thrown l D ca am M' (wC ar ag ca P' G' ++ [(ao, oc ca (va_up O 0 res.toInt64))]) 0 hT H.size
    refine x_callVw K hA X kx hl.1 0 q1380 q1381 q1382 q97 q1383 hv_X8_thrown ⟨⟨(Nat.le_of_ble_eq_true rfl), (Nat.le_of_ble_eq_true rfl)⟩, rfl, rfl⟩ pl_modo rfl rfl rfl rfl (Nat.le_of_ble_eq_true rfl) dL_law_1925 ⟨(by show cells + 1 + 0 ≤ 601024; omega), (by show slots + 6 + 0 ≤ 7293034; omega)⟩ rfl (fun H locs X => ?_)
    have X := X.perm wL_swap.symm
    refine lv_iload hx hb dL_law_1928 (lv_at hl 1 rfl) ?_
    refine lv_icmp_eq (tgt := 1935) hx hb dL_law_1930 (by decide) (fun _ => ?_) (fun c1 => absurd rfl c1)
    refine lv_iload hx hb dL_law_1935 (lv_at hl 1 rfl) ?_
    refine lv_if_ne (tgt := 1952) hx hb dL_law_1937 (by decide) (fun c1 => absurd rfl c1) (fun _ => ?_)
    refine lv_aload_n hx hb dL_law_1940 rfl (lv_at hl 5 rfl) ?_
    refine lv_iconst (v := 0) hx hb dL_law_1941 (by decide) ?_
    refine x_lald K X (241 + (wM am ca M').length) ctor_atw (vp_in_iff.mpr (by decide)) dL_law_1942 ?_
    refine lv_iload hx hb dL_law_1943 (lv_at hl 0 rfl) ?_
    refine lv_i2l hx hb dL_law_1945 rfl ?_
    refine w_beq (tgt := 1952) K dL_law_1946 dL_law_1947 (by decide) (fun _ => ?_) (fun c1 => absurd (by rw [show (0 : Int32).toNatClampNeg = 0 from rfl, va_up_self]; exact hv) c1)
    refine lv_goto (tgt := 2302) hx hb dL_law_1952 (by decide) ?_
    exact kk P' G' M' (va_up O 0 res.toInt64) H locs ls hI X (lv_sub hl [2, 3, 4, 5, 6] rfl)
  · skip
    obtain ⟨n2, b, M', ht, h8, hT, hI⟩ := hok
    refine lv_aload_n hx hb dL_law_1887 rfl (lv_at hl 1 rfl) ?_
    refine lv_aload_n hx hb dL_law_1888 rfl (lv_at hl 0 rfl) ?_
    refine lv_iload hx hb dL_law_1889 (lv_at hl 4 rfl) ?_
    refine lv_iconst (v := 1) hx hb dL_law_1891 (by decide) ?_
    refine lv_iadd hx hb dL_law_1892 ?_
    refine x_sld K X hS h1 dL_law_1893 ?_
    refine lv_aload_n hx hb dL_law_1894 rfl (lv_at hl 0 rfl) ?_
    refine lv_iload hx hb dL_law_1895 (lv_at hl 4 rfl) ?_
    refine lv_iconst (v := 2) hx hb dL_law_1897 (by decide) ?_
    refine lv_iadd hx hb dL_law_1898 ?_
    refine x_sld K X hS h2 dL_law_1899 ?_
    refine lv_aload_n hx hb dL_law_1900 rfl (lv_at hl 3 rfl) ?_
    have kx := e1_L_refill l D ca ar ag z hl0 P G (wM am ca M) ao O a1 a2 ht H.size
    refine x_callSW K hA hZ X kx hl.1 4 q1034 q1035 q86 q1036 hs_L_refill ⟨⟨(Nat.le_of_ble_eq_true rfl), (Nat.le_of_ble_eq_true rfl)⟩, rfl, rfl⟩ rfl rfl (Nat.le_of_ble_eq_true rfl) dL_law_1901 ⟨hroom.1, hroom.2⟩ rfl (fun H locs X => ?_)
    refine lv_istore (lv' := [(5, .int 1), (0, .ref b0), (1, .ref (ag 0)), (2, .ref (am 0)), (3, .ref ao), (4, .int I)]) hx hb dL_law_1904 hl (by decide) rfl (fun ls hl => ?_)
    refine lv_aload_n hx hb dL_law_1906 rfl (lv_at hl 3 rfl) ?_
    refine lv_aload_n hx hb dL_law_1907 rfl (lv_at hl 1 rfl) ?_
    refine lv_iload hx hb dL_law_1908 (lv_at hl 5 rfl) ?_
    refine lv_iconst (v := 1) hx hb dL_law_1910 (by decide) ?_
    refine lv_iadd hx hb dL_law_1911 ?_
    refine x_sld K X hS h1 dL_law_1912 ?_
    refine lv_aload_n hx hb dL_law_1913 rfl (lv_at hl 1 rfl) ?_
    refine lv_iload hx hb dL_law_1914 (lv_at hl 5 rfl) ?_
    refine lv_iconst (v := 2) hx hb dL_law_1916 (by decide) ?_
    refine lv_iadd hx hb dL_law_1917 ?_
    refine x_sld K X hS h2 dL_law_1918 ?_
    have X := X.perm wL_swap
    have kx := m_X8_refill l D ca am n2 M (wC ar ag ca P G ++ [(ao, oc ca O)]) a1 a2 b M' h8 H.size
    refine x_callVw K hA X kx hl.1 2 q1865 q1866 q1867 q97 q1868 hv_X8_refill ⟨⟨(Nat.le_of_ble_eq_true rfl), (Nat.le_of_ble_eq_true rfl)⟩, rfl, rfl⟩ pl_modo rfl rfl rfl rfl (Nat.le_of_ble_eq_true rfl) dL_law_1919 ⟨(by show cells + 1 + 0 ≤ 601024; omega), (by show slots + 6 + 0 ≤ 7293034; omega)⟩ rfl (fun H locs X => ?_)
    have X := X.perm wL_swap.symm
    refine lv_istore (lv' := [(6, .int b), (5, .int 1), (0, .ref b0), (1, .ref (ag 0)), (2, .ref (am 0)), (3, .ref ao), (4, .int I)]) hx hb dL_law_1922 hl (by decide) rfl (fun ls hl => ?_)
    refine lv_aload_n hx hb dL_law_1924 rfl (lv_at hl 4 rfl) ?_
    have X := X.perm wL_swap
    have kx := m_X8_thrown l D ca am M' (wC ar ag ca P G ++ [(ao, oc ca O)]) 1 hT H.size
    refine x_callVw K hA X kx hl.1 0 q1380 q1381 q1382 q97 q1383 hv_X8_thrown ⟨⟨(Nat.le_of_ble_eq_true rfl), (Nat.le_of_ble_eq_true rfl)⟩, rfl, rfl⟩ pl_modo rfl rfl rfl rfl (Nat.le_of_ble_eq_true rfl) dL_law_1925 ⟨(by show cells + 1 + 0 ≤ 601024; omega), (by show slots + 6 + 0 ≤ 7293034; omega)⟩ rfl (fun H locs X => ?_)
    have X := X.perm wL_swap.symm
    refine lv_iload hx hb dL_law_1928 (lv_at hl 1 rfl) ?_
    refine lv_icmp_eq (tgt := 1935) hx hb dL_law_1930 (by decide) (fun _ => ?_) (fun c1 => absurd rfl c1)
    refine lv_iload hx hb dL_law_1935 (lv_at hl 1 rfl) ?_
    refine lv_if_ne (tgt := 1952) hx hb dL_law_1937 (by decide) (fun _ => ?_) (fun c1 => absurd c1 (by decide))
    refine lv_goto (tgt := 2302) hx hb dL_law_1952 (by decide) ?_
    exact kk P G M' O H locs ls hI X (lv_sub hl [2, 3, 4, 5, 6] rfl)
  · skip
    obtain ⟨n2, b, M', ht, h8, hT, hI⟩ := hok
    refine lv_aload_n hx hb dL_law_1887 rfl (lv_at hl 1 rfl) ?_
    refine lv_aload_n hx hb dL_law_1888 rfl (lv_at hl 0 rfl) ?_
    refine lv_iload hx hb dL_law_1889 (lv_at hl 4 rfl) ?_
    refine lv_iconst (v := 1) hx hb dL_law_1891 (by decide) ?_
    refine lv_iadd hx hb dL_law_1892 ?_
    refine x_sld K X hS h1 dL_law_1893 ?_
    refine lv_aload_n hx hb dL_law_1894 rfl (lv_at hl 0 rfl) ?_
    refine lv_iload hx hb dL_law_1895 (lv_at hl 4 rfl) ?_
    refine lv_iconst (v := 2) hx hb dL_law_1897 (by decide) ?_
    refine lv_iadd hx hb dL_law_1898 ?_
    refine x_sld K X hS h2 dL_law_1899 ?_
    refine lv_aload_n hx hb dL_law_1900 rfl (lv_at hl 3 rfl) ?_
    have kx := e2_L_refill l D ca ar ag z hl0 P G (wM am ca M) ao O a1 a2 ht H.size
    refine x_callSW K hA hZ X kx hl.1 4 q1034 q1035 q86 q1036 hs_L_refill ⟨⟨(Nat.le_of_ble_eq_true rfl), (Nat.le_of_ble_eq_true rfl)⟩, rfl, rfl⟩ rfl rfl (Nat.le_of_ble_eq_true rfl) dL_law_1901 ⟨hroom.1, hroom.2⟩ rfl (fun H locs X => ?_)
    refine lv_istore (lv' := [(5, .int 2), (0, .ref b0), (1, .ref (ag 0)), (2, .ref (am 0)), (3, .ref ao), (4, .int I)]) hx hb dL_law_1904 hl (by decide) rfl (fun ls hl => ?_)
    refine lv_aload_n hx hb dL_law_1906 rfl (lv_at hl 3 rfl) ?_
    refine lv_aload_n hx hb dL_law_1907 rfl (lv_at hl 1 rfl) ?_
    refine lv_iload hx hb dL_law_1908 (lv_at hl 5 rfl) ?_
    refine lv_iconst (v := 1) hx hb dL_law_1910 (by decide) ?_
    refine lv_iadd hx hb dL_law_1911 ?_
    refine x_sld K X hS h1 dL_law_1912 ?_
    refine lv_aload_n hx hb dL_law_1913 rfl (lv_at hl 1 rfl) ?_
    refine lv_iload hx hb dL_law_1914 (lv_at hl 5 rfl) ?_
    refine lv_iconst (v := 2) hx hb dL_law_1916 (by decide) ?_
    refine lv_iadd hx hb dL_law_1917 ?_
    refine x_sld K X hS h2 dL_law_1918 ?_
    have X := X.perm wL_swap
    have kx := m_X8_refill l D ca am n2 M (wC ar ag ca P G ++ [(ao, oc ca O)]) a1 a2 b M' h8 H.size
    refine x_callVw K hA X kx hl.1 2 q1865 q1866 q1867 q97 q1868 hv_X8_refill ⟨⟨(Nat.le_of_ble_eq_true rfl), (Nat.le_of_ble_eq_true rfl)⟩, rfl, rfl⟩ pl_modo rfl rfl rfl rfl (Nat.le_of_ble_eq_true rfl) dL_law_1919 ⟨(by show cells + 1 + 0 ≤ 601024; omega), (by show slots + 6 + 0 ≤ 7293034; omega)⟩ rfl (fun H locs X => ?_)
    have X := X.perm wL_swap.symm
    refine lv_istore (lv' := [(6, .int b), (5, .int 2), (0, .ref b0), (1, .ref (ag 0)), (2, .ref (am 0)), (3, .ref ao), (4, .int I)]) hx hb dL_law_1922 hl (by decide) rfl (fun ls hl => ?_)
    refine lv_aload_n hx hb dL_law_1924 rfl (lv_at hl 4 rfl) ?_
    have X := X.perm wL_swap
    have kx := m_X8_thrown l D ca am M' (wC ar ag ca P G ++ [(ao, oc ca O)]) 2 hT H.size
    refine x_callVw K hA X kx hl.1 0 q1380 q1381 q1382 q97 q1383 hv_X8_thrown ⟨⟨(Nat.le_of_ble_eq_true rfl), (Nat.le_of_ble_eq_true rfl)⟩, rfl, rfl⟩ pl_modo rfl rfl rfl rfl (Nat.le_of_ble_eq_true rfl) dL_law_1925 ⟨(by show cells + 1 + 0 ≤ 601024; omega), (by show slots + 6 + 0 ≤ 7293034; omega)⟩ rfl (fun H locs X => ?_)
    have X := X.perm wL_swap.symm
    refine lv_iload hx hb dL_law_1928 (lv_at hl 1 rfl) ?_
    refine lv_icmp_eq (tgt := 1935) hx hb dL_law_1930 (by decide) (fun _ => ?_) (fun c1 => absurd rfl c1)
    refine lv_iload hx hb dL_law_1935 (lv_at hl 1 rfl) ?_
    refine lv_if_ne (tgt := 1952) hx hb dL_law_1937 (by decide) (fun _ => ?_) (fun c1 => absurd c1 (by decide))
    refine lv_goto (tgt := 2302) hx hb dL_law_1952 (by decide) ?_
    exact kk P G M' O H locs ls hI X (lv_sub hl [2, 3, 4, 5, 6] rfl)
-- case 31
def OK_addTube (Inv : RowsS → GlbS → RowS → Prop) (P : RowsS) (G : GlbS) (M : RowS) (a1 : Int32) (a2 : Int32) (a3 : Int32) (a4 : Int32) (a5 : Int32) : Prop :=
  (∃ (n : Nat) (res : Int32) (P' : RowsS) (G' : GlbS) (n2 : Nat) (b : Int32) (M' : RowS), f_X7_addTube n P G a1 a2 a3 a4 a5 = some (res, P', G') ∧ f_X8_addTube n2 M a1 a2 a3 a4 a5 = some (b, M') ∧ f_X8_thrown M' = 0 ∧ res.toInt64 = b.toInt64 ∧ Inv P' G' M') ∨
  (∃ (n2 : Nat) (b : Int32) (M' : RowS), t_X7_addTube P G a1 a2 a3 a4 a5 = some 1 ∧ f_X8_addTube n2 M a1 a2 a3 a4 a5 = some (b, M') ∧ f_X8_thrown M' = 1 ∧ Inv P G M') ∨
  (∃ (n2 : Nat) (b : Int32) (M' : RowS), t_X7_addTube P G a1 a2 a3 a4 a5 = some 2 ∧ f_X8_addTube n2 M a1 a2 a3 a4 a5 = some (b, M') ∧ f_X8_thrown M' = 2 ∧ Inv P G M')
set_option maxRecDepth 100000 in
set_option maxHeartbeats 4000000 in
theorem k_addTube {p : Program} {l : Launch} {e : Env} {s : State} {m : MethodId} {args : Array Value} {below : List Frame} {meth : Method} {c : Code} {Q : State → Prop} {D : va_G} {A : Nat → Prop} {ar : Nat → Nat → Nat} {ag : Nat → Nat} {ca : Nat → ClassId} {am : Nat → Nat} {ao b0 L : Nat} {xs : Nat → Int32} {I : Int32} {Inv : RowsS → GlbS → RowS → Prop} {cells slots : Nat} {z : ZG} (K : MC D ca p s m args meth c cL_law 9 RL) (hl0 : l.stackTraces = false) (hA : ∀ q, s.heap.size ≤ q → A q) (hZ : ZF z A s s.heap) (hS : va_X b0 L xs s s.heap ∧ b0 < s.heap.size ∧ ¬ A b0) (hroom : cells + 1 ≤ 601024 ∧ slots + 6 ≤ 7293034) {a1 : Int32} {a2 : Int32} {a3 : Int32} {a4 : Int32} {a5 : Int32} (h1 : vp_in (I + 1) L ∧ xs (I + 1).toNatClampNeg = a1) (h2 : vp_in (I + 2) L ∧ xs (I + 2).toNatClampNeg = a2) (h3 : vp_in (I + 3) L ∧ xs (I + 3).toNatClampNeg = a3) (h4 : vp_in (I + 4) L ∧ xs (I + 4).toNatClampNeg = a4) (h5 : vp_in (I + 5) L ∧ xs (I + 5).toNatClampNeg = a5) {P : RowsS} {G : GlbS} {M : RowS} {O : Nat → Int64} {H : Heap} {locs : List Loc} {ls : Array Slot} (hok : OK_addTube Inv P G M a1 a2 a3 a4 a5) (X : RX D A (wL ar ag ca am P G M ao O) s.heap H locs) (hl : lv_has ls 9 [(0, .ref b0), (1, .ref (ag 0)), (2, .ref (am 0)), (3, .ref ao), (4, .int I)]) (kk : LwAt p l e s m args below meth c Q D A ar ag ca am ao b0 I Inv (cells + 1) (slots + 6) 2302) : W p l e room_1 s m args below meth c H locs cells slots Q (F0 m 1955 ls []) := by
  have hx := K.1
  have hb := K.2.1
  unfold OK_addTube at hok
  rcases hok with hok | hok | hok
  · skip
    obtain ⟨n, res, P', G', n2, b, M', h7, h8, hT, hv, hI⟩ := hok
    refine lv_aload_n hx hb dL_law_1955 rfl (lv_at hl 1 rfl) ?_
    refine lv_aload_n hx hb dL_law_1956 rfl (lv_at hl 0 rfl) ?_
    refine lv_iload hx hb dL_law_1957 (lv_at hl 4 rfl) ?_
    refine lv_iconst (v := 1) hx hb dL_law_1959 (by decide) ?_
    refine lv_iadd hx hb dL_law_1960 ?_
    refine x_sld K X hS h1 dL_law_1961 ?_
    refine lv_aload_n hx hb dL_law_1962 rfl (lv_at hl 0 rfl) ?_
    refine lv_iload hx hb dL_law_1963 (lv_at hl 4 rfl) ?_
    refine lv_iconst (v := 2) hx hb dL_law_1965 (by decide) ?_
    refine lv_iadd hx hb dL_law_1966 ?_
    refine x_sld K X hS h2 dL_law_1967 ?_
    refine lv_aload_n hx hb dL_law_1968 rfl (lv_at hl 0 rfl) ?_
    refine lv_iload hx hb dL_law_1969 (lv_at hl 4 rfl) ?_
    refine lv_iconst (v := 3) hx hb dL_law_1971 (by decide) ?_
    refine lv_iadd hx hb dL_law_1972 ?_
    refine x_sld K X hS h3 dL_law_1973 ?_
    refine lv_aload_n hx hb dL_law_1974 rfl (lv_at hl 0 rfl) ?_
    refine lv_iload hx hb dL_law_1975 (lv_at hl 4 rfl) ?_
    refine lv_iconst (v := 4) hx hb dL_law_1977 (by decide) ?_
    refine lv_iadd hx hb dL_law_1978 ?_
    refine x_sld K X hS h4 dL_law_1979 ?_
    refine lv_aload_n hx hb dL_law_1980 rfl (lv_at hl 0 rfl) ?_
    refine lv_iload hx hb dL_law_1981 (lv_at hl 4 rfl) ?_
    refine lv_iconst (v := 5) hx hb dL_law_1983 (by decide) ?_
    refine lv_iadd hx hb dL_law_1984 ?_
    refine x_sld K X hS h5 dL_law_1985 ?_
    refine lv_aload_n hx hb dL_law_1986 rfl (lv_at hl 3 rfl) ?_
    have kx := n_L_addTube l D ca ar ag z n P G (wM am ca M) ao O a1 a2 a3 a4 a5 res P' G' h7 H.size
    refine x_callSW K hA hZ X kx hl.1 7 q1043 q1044 q86 q1045 hs_L_addTube ⟨⟨(Nat.le_of_ble_eq_true rfl), (Nat.le_of_ble_eq_true rfl)⟩, rfl, rfl⟩ rfl rfl (Nat.le_of_ble_eq_true rfl) dL_law_1987 ⟨hroom.1, hroom.2⟩ rfl (fun H locs X => ?_)
    refine lv_istore (lv' := [(5, .int 0), (0, .ref b0), (1, .ref (ag 0)), (2, .ref (am 0)), (3, .ref ao), (4, .int I)]) hx hb dL_law_1990 hl (by decide) rfl (fun ls hl => ?_)
    refine lv_aload_n hx hb dL_law_1992 rfl (lv_at hl 3 rfl) ?_
    refine lv_aload_n hx hb dL_law_1993 rfl (lv_at hl 1 rfl) ?_
    refine lv_iload hx hb dL_law_1994 (lv_at hl 5 rfl) ?_
    refine lv_iconst (v := 1) hx hb dL_law_1996 (by decide) ?_
    refine lv_iadd hx hb dL_law_1997 ?_
    refine x_sld K X hS h1 dL_law_1998 ?_
    refine lv_aload_n hx hb dL_law_1999 rfl (lv_at hl 1 rfl) ?_
    refine lv_iload hx hb dL_law_2000 (lv_at hl 5 rfl) ?_
    refine lv_iconst (v := 2) hx hb dL_law_2002 (by decide) ?_
    refine lv_iadd hx hb dL_law_2003 ?_
    refine x_sld K X hS h2 dL_law_2004 ?_
    refine lv_aload_n hx hb dL_law_2005 rfl (lv_at hl 1 rfl) ?_
    refine lv_iload hx hb dL_law_2006 (lv_at hl 5 rfl) ?_
    refine lv_iconst (v := 3) hx hb dL_law_2008 (by decide) ?_
    refine lv_iadd hx hb dL_law_2009 ?_
    refine x_sld K X hS h3 dL_law_2010 ?_
    refine lv_aload_n hx hb dL_law_2011 rfl (lv_at hl 1 rfl) ?_
    refine lv_iload hx hb dL_law_2012 (lv_at hl 5 rfl) ?_
    refine lv_iconst (v := 4) hx hb dL_law_2014 (by decide) ?_
    refine lv_iadd hx hb dL_law_2015 ?_
    refine x_sld K X hS h4 dL_law_2016 ?_
    refine lv_aload_n hx hb dL_law_2017 rfl (lv_at hl 1 rfl) ?_
    refine lv_iload hx hb dL_law_2018 (lv_at hl 5 rfl) ?_
    refine lv_iconst (v := 5) hx hb dL_law_2020 (by decide) ?_
    refine lv_iadd hx hb dL_law_2021 ?_
    refine x_sld K X hS h5 dL_law_2022 ?_
    have X := X.perm wL_swap
    have kx := m_X8_addTube l D ca am n2 M (wC ar ag ca P' G' ++ [(ao, oc ca (va_up O 0 res.toInt64))]) a1 a2 a3 a4 a5 b M' h8 H.size
    refine x_callVw K hA X kx hl.1 5 q1871 q1872 q1873 q97 q1874 hv_X8_addTube ⟨⟨(Nat.le_of_ble_eq_true rfl), (Nat.le_of_ble_eq_true rfl)⟩, rfl, rfl⟩ pl_modo rfl rfl rfl rfl (Nat.le_of_ble_eq_true rfl) dL_law_2023 ⟨(by show cells + 1 + 0 ≤ 601024; omega), (by show slots + 6 + 0 ≤ 7293034; omega)⟩ rfl (fun H locs X => ?_)
    have X := X.perm wL_swap.symm
    refine lv_istore (lv' := [(6, .int b), (5, .int 0), (0, .ref b0), (1, .ref (ag 0)), (2, .ref (am 0)), (3, .ref ao), (4, .int I)]) hx hb dL_law_2026 hl (by decide) rfl (fun ls hl => ?_)
    refine lv_aload_n hx hb dL_law_2028 rfl (lv_at hl 4 rfl) ?_
    have X := X.perm wL_swap
    have kx := m_X8_thrown l D ca am M' (wC ar ag ca P' G' ++ [(ao, oc ca (va_up O 0 res.toInt64))]) 0 hT H.size
    refine x_callVw K hA X kx hl.1 0 q1380 q1381 q1382 q97 q1383 hv_X8_thrown ⟨⟨(Nat.le_of_ble_eq_true rfl), (Nat.le_of_ble_eq_true rfl)⟩, rfl, rfl⟩ pl_modo rfl rfl rfl rfl (Nat.le_of_ble_eq_true rfl) dL_law_2029 ⟨(by show cells + 1 + 0 ≤ 601024; omega), (by show slots + 6 + 0 ≤ 7293034; omega)⟩ rfl (fun H locs X => ?_)
    have X := X.perm wL_swap.symm
    refine lv_iload hx hb dL_law_2032 (lv_at hl 1 rfl) ?_
    refine lv_icmp_eq (tgt := 2039) hx hb dL_law_2034 (by decide) (fun _ => ?_) (fun c1 => absurd rfl c1)
    refine lv_iload hx hb dL_law_2039 (lv_at hl 1 rfl) ?_
    refine lv_if_ne (tgt := 2056) hx hb dL_law_2041 (by decide) (fun c1 => absurd rfl c1) (fun _ => ?_)
    refine lv_aload_n hx hb dL_law_2044 rfl (lv_at hl 5 rfl) ?_
    refine lv_iconst (v := 0) hx hb dL_law_2045 (by decide) ?_
    refine x_lald K X (241 + (wM am ca M').length) ctor_atw (vp_in_iff.mpr (by decide)) dL_law_2046 ?_
    refine lv_iload hx hb dL_law_2047 (lv_at hl 0 rfl) ?_
    refine lv_i2l hx hb dL_law_2049 rfl ?_
    refine w_beq (tgt := 2056) K dL_law_2050 dL_law_2051 (by decide) (fun _ => ?_) (fun c1 => absurd (by rw [show (0 : Int32).toNatClampNeg = 0 from rfl, va_up_self]; exact hv) c1)
    refine lv_goto (tgt := 2302) hx hb dL_law_2056 (by decide) ?_
    exact kk P' G' M' (va_up O 0 res.toInt64) H locs ls hI X (lv_sub hl [2, 3, 4, 5, 6] rfl)
  · skip
    obtain ⟨n2, b, M', ht, h8, hT, hI⟩ := hok
    refine lv_aload_n hx hb dL_law_1955 rfl (lv_at hl 1 rfl) ?_
    refine lv_aload_n hx hb dL_law_1956 rfl (lv_at hl 0 rfl) ?_
    refine lv_iload hx hb dL_law_1957 (lv_at hl 4 rfl) ?_
    refine lv_iconst (v := 1) hx hb dL_law_1959 (by decide) ?_
    refine lv_iadd hx hb dL_law_1960 ?_
    refine x_sld K X hS h1 dL_law_1961 ?_
    refine lv_aload_n hx hb dL_law_1962 rfl (lv_at hl 0 rfl) ?_
    refine lv_iload hx hb dL_law_1963 (lv_at hl 4 rfl) ?_
    refine lv_iconst (v := 2) hx hb dL_law_1965 (by decide) ?_
    refine lv_iadd hx hb dL_law_1966 ?_
    refine x_sld K X hS h2 dL_law_1967 ?_
    refine lv_aload_n hx hb dL_law_1968 rfl (lv_at hl 0 rfl) ?_
    refine lv_iload hx hb dL_law_1969 (lv_at hl 4 rfl) ?_
    refine lv_iconst (v := 3) hx hb dL_law_1971 (by decide) ?_
    refine lv_iadd hx hb dL_law_1972 ?_
    refine x_sld K X hS h3 dL_law_1973 ?_
    refine lv_aload_n hx hb dL_law_1974 rfl (lv_at hl 0 rfl) ?_
    refine lv_iload hx hb dL_law_1975 (lv_at hl 4 rfl) ?_
    refine lv_iconst (v := 4) hx hb dL_law_1977 (by decide) ?_
    refine lv_iadd hx hb dL_law_1978 ?_
    refine x_sld K X hS h4 dL_law_1979 ?_
    refine lv_aload_n hx hb dL_law_1980 rfl (lv_at hl 0 rfl) ?_
    refine lv_iload hx hb dL_law_1981 (lv_at hl 4 rfl) ?_
    refine lv_iconst (v := 5) hx hb dL_law_1983 (by decide) ?_
    refine lv_iadd hx hb dL_law_1984 ?_
    refine x_sld K X hS h5 dL_law_1985 ?_
    refine lv_aload_n hx hb dL_law_1986 rfl (lv_at hl 3 rfl) ?_
    have kx := e1_L_addTube l D ca ar ag z hl0 P G (wM am ca M) ao O a1 a2 a3 a4 a5 ht H.size
    refine x_callSW K hA hZ X kx hl.1 7 q1043 q1044 q86 q1045 hs_L_addTube ⟨⟨(Nat.le_of_ble_eq_true rfl), (Nat.le_of_ble_eq_true rfl)⟩, rfl, rfl⟩ rfl rfl (Nat.le_of_ble_eq_true rfl) dL_law_1987 ⟨hroom.1, hroom.2⟩ rfl (fun H locs X => ?_)
    refine lv_istore (lv' := [(5, .int 1), (0, .ref b0), (1, .ref (ag 0)), (2, .ref (am 0)), (3, .ref ao), (4, .int I)]) hx hb dL_law_1990 hl (by decide) rfl (fun ls hl => ?_)
    refine lv_aload_n hx hb dL_law_1992 rfl (lv_at hl 3 rfl) ?_
    refine lv_aload_n hx hb dL_law_1993 rfl (lv_at hl 1 rfl) ?_
    refine lv_iload hx hb dL_law_1994 (lv_at hl 5 rfl) ?_
    refine lv_iconst (v := 1) hx hb dL_law_1996 (by decide) ?_
    refine lv_iadd hx hb dL_law_1997 ?_
    refine x_sld K X hS h1 dL_law_1998 ?_
    refine lv_aload_n hx hb dL_law_1999 rfl (lv_at hl 1 rfl) ?_
    refine lv_iload hx hb dL_law_2000 (lv_at hl 5 rfl) ?_
    refine lv_iconst (v := 2) hx hb dL_law_2002 (by decide) ?_
    refine lv_iadd hx hb dL_law_2003 ?_
    refine x_sld K X hS h2 dL_law_2004 ?_
    refine lv_aload_n hx hb dL_law_2005 rfl (lv_at hl 1 rfl) ?_
    refine lv_iload hx hb dL_law_2006 (lv_at hl 5 rfl) ?_
    refine lv_iconst (v := 3) hx hb dL_law_2008 (by decide) ?_
    refine lv_iadd hx hb dL_law_2009 ?_
    refine x_sld K X hS h3 dL_law_2010 ?_
    refine lv_aload_n hx hb dL_law_2011 rfl (lv_at hl 1 rfl) ?_
    refine lv_iload hx hb dL_law_2012 (lv_at hl 5 rfl) ?_
    refine lv_iconst (v := 4) hx hb dL_law_2014 (by decide) ?_
    refine lv_iadd hx hb dL_law_2015 ?_
    refine x_sld K X hS h4 dL_law_2016 ?_
    refine lv_aload_n hx hb dL_law_2017 rfl (lv_at hl 1 rfl) ?_
    refine lv_iload hx hb dL_law_2018 (lv_at hl 5 rfl) ?_
    refine lv_iconst (v := 5) hx hb dL_law_2020 (by decide) ?_
    refine lv_iadd hx hb dL_law_2021 ?_
    refine x_sld K X hS h5 dL_law_2022 ?_
    have X := X.perm wL_swap
    have kx := m_X8_addTube l D ca am n2 M (wC ar ag ca P G ++ [(ao, oc ca O)]) a1 a2 a3 a4 a5 b M' h8 H.size
    refine x_callVw K hA X kx hl.1 5 q1871 q1872 q1873 q97 q1874 hv_X8_addTube ⟨⟨(Nat.le_of_ble_eq_true rfl), (Nat.le_of_ble_eq_true rfl)⟩, rfl, rfl⟩ pl_modo rfl rfl rfl rfl (Nat.le_of_ble_eq_true rfl) dL_law_2023 ⟨(by show cells + 1 + 0 ≤ 601024; omega), (by show slots + 6 + 0 ≤ 7293034; omega)⟩ rfl (fun H locs X => ?_)
    have X := X.perm wL_swap.symm
    refine lv_istore (lv' := [(6, .int b), (5, .int 1), (0, .ref b0), (1, .ref (ag 0)), (2, .ref (am 0)), (3, .ref ao), (4, .int I)]) hx hb dL_law_2026 hl (by decide) rfl (fun ls hl => ?_)
    refine lv_aload_n hx hb dL_law_2028 rfl (lv_at hl 4 rfl) ?_
    have X := X.perm wL_swap
    have kx := m_X8_thrown l D ca am M' (wC ar ag ca P G ++ [(ao, oc ca O)]) 1 hT H.size
    refine x_callVw K hA X kx hl.1 0 q1380 q1381 q1382 q97 q1383 hv_X8_thrown ⟨⟨(Nat.le_of_ble_eq_true rfl), (Nat.le_of_ble_eq_true rfl)⟩, rfl, rfl⟩ pl_modo rfl rfl rfl rfl (Nat.le_of_ble_eq_true rfl) dL_law_2029 ⟨(by show cells + 1 + 0 ≤ 601024; omega), (by show slots + 6 + 0 ≤ 7293034; omega)⟩ rfl (fun H locs X => ?_)
    have X := X.perm wL_swap.symm
    refine lv_iload hx hb dL_law_2032 (lv_at hl 1 rfl) ?_
    refine lv_icmp_eq (tgt := 2039) hx hb dL_law_2034 (by decide) (fun _ => ?_) (fun c1 => absurd rfl c1)
    refine lv_iload hx hb dL_law_2039 (lv_at hl 1 rfl) ?_
    refine lv_if_ne (tgt := 2056) hx hb dL_law_2041 (by decide) (fun _ => ?_) (fun c1 => absurd c1 (by decide))
    refine lv_goto (tgt := 2302) hx hb dL_law_2056 (by decide) ?_
    exact kk P G M' O H locs ls hI X (lv_sub hl [2, 3, 4, 5, 6] rfl)
  · skip
    obtain ⟨n2, b, M', ht, h8, hT, hI⟩ := hok
    refine lv_aload_n hx hb dL_law_1955 rfl (lv_at hl 1 rfl) ?_
    refine lv_aload_n hx hb dL_law_1956 rfl (lv_at hl 0 rfl) ?_
    refine lv_iload hx hb dL_law_1957 (lv_at hl 4 rfl) ?_
    refine lv_iconst (v := 1) hx hb dL_law_1959 (by decide) ?_
    refine lv_iadd hx hb dL_law_1960 ?_
    refine x_sld K X hS h1 dL_law_1961 ?_
    refine lv_aload_n hx hb dL_law_1962 rfl (lv_at hl 0 rfl) ?_
    refine lv_iload hx hb dL_law_1963 (lv_at hl 4 rfl) ?_
    refine lv_iconst (v := 2) hx hb dL_law_1965 (by decide) ?_
    refine lv_iadd hx hb dL_law_1966 ?_
    refine x_sld K X hS h2 dL_law_1967 ?_
    refine lv_aload_n hx hb dL_law_1968 rfl (lv_at hl 0 rfl) ?_
    refine lv_iload hx hb dL_law_1969 (lv_at hl 4 rfl) ?_
    refine lv_iconst (v := 3) hx hb dL_law_1971 (by decide) ?_
    refine lv_iadd hx hb dL_law_1972 ?_
    refine x_sld K X hS h3 dL_law_1973 ?_
    refine lv_aload_n hx hb dL_law_1974 rfl (lv_at hl 0 rfl) ?_
    refine lv_iload hx hb dL_law_1975 (lv_at hl 4 rfl) ?_
    refine lv_iconst (v := 4) hx hb dL_law_1977 (by decide) ?_
    refine lv_iadd hx hb dL_law_1978 ?_
    refine x_sld K X hS h4 dL_law_1979 ?_
    refine lv_aload_n hx hb dL_law_1980 rfl (lv_at hl 0 rfl) ?_
    refine lv_iload hx hb dL_law_1981 (lv_at hl 4 rfl) ?_
    refine lv_iconst (v := 5) hx hb dL_law_1983 (by decide) ?_
    refine lv_iadd hx hb dL_law_1984 ?_
    refine x_sld K X hS h5 dL_law_1985 ?_
    refine lv_aload_n hx hb dL_law_1986 rfl (lv_at hl 3 rfl) ?_
    have kx := e2_L_addTube l D ca ar ag z hl0 P G (wM am ca M) ao O a1 a2 a3 a4 a5 ht H.size
    refine x_callSW K hA hZ X kx hl.1 7 q1043 q1044 q86 q1045 hs_L_addTube ⟨⟨(Nat.le_of_ble_eq_true rfl), (Nat.le_of_ble_eq_true rfl)⟩, rfl, rfl⟩ rfl rfl (Nat.le_of_ble_eq_true rfl) dL_law_1987 ⟨hroom.1, hroom.2⟩ rfl (fun H locs X => ?_)
    refine lv_istore (lv' := [(5, .int 2), (0, .ref b0), (1, .ref (ag 0)), (2, .ref (am 0)), (3, .ref ao), (4, .int I)]) hx hb dL_law_1990 hl (by decide) rfl (fun ls hl => ?_)
    refine lv_aload_n hx hb dL_law_1992 rfl (lv_at hl 3 rfl) ?_
    refine lv_aload_n hx hb dL_law_1993 rfl (lv_at hl 1 rfl) ?_
    refine lv_iload hx hb dL_law_1994 (lv_at hl 5 rfl) ?_
    refine lv_iconst (v := 1) hx hb dL_law_1996 (by decide) ?_
    refine lv_iadd hx hb dL_law_1997 ?_
    refine x_sld K X hS h1 dL_law_1998 ?_
    refine lv_aload_n hx hb dL_law_1999 rfl (lv_at hl 1 rfl) ?_
    refine lv_iload hx hb dL_law_2000 (lv_at hl 5 rfl) ?_
    refine lv_iconst (v := 2) hx hb dL_law_2002 (by decide) ?_
    refine lv_iadd hx hb dL_law_2003 ?_
    refine x_sld K X hS h2 dL_law_2004 ?_
    refine lv_aload_n hx hb dL_law_2005 rfl (lv_at hl 1 rfl) ?_
    refine lv_iload hx hb dL_law_2006 (lv_at hl 5 rfl) ?_
    refine lv_iconst (v := 3) hx hb dL_law_2008 (by decide) ?_
    refine lv_iadd hx hb dL_law_2009 ?_
    refine x_sld K X hS h3 dL_law_2010 ?_
    refine lv_aload_n hx hb dL_law_2011 rfl (lv_at hl 1 rfl) ?_
    refine lv_iload hx hb dL_law_2012 (lv_at hl 5 rfl) ?_
    refine lv_iconst (v := 4) hx hb dL_law_2014 (by decide) ?_
    refine lv_iadd hx hb dL_law_2015 ?_
    refine x_sld K X hS h4 dL_law_2016 ?_
    refine lv_aload_n hx hb dL_law_2017 rfl (lv_at hl 1 rfl) ?_
    refine lv_iload hx hb dL_law_2018 (lv_at hl 5 rfl) ?_
    refine lv_iconst (v := 5) hx hb dL_law_2020 (by decide) ?_
    refine lv_iadd hx hb dL_law_2021 ?_
    refine x_sld K X hS h5 dL_law_2022 ?_
    have X := X.perm wL_swap
    have kx := m_X8_addTube l D ca am n2 M (wC ar ag ca P G ++ [(ao, oc ca O)]) a1 a2 a3 a4 a5 b M' h8 H.size
    refine x_callVw K hA X kx hl.1 5 q1871 q1872 q1873 q97 q1874 hv_X8_addTube ⟨⟨(Nat.le_of_ble_eq_true rfl), (Nat.le_of_ble_eq_true rfl)⟩, rfl, rfl⟩ pl_modo rfl rfl rfl rfl (Nat.le_of_ble_eq_true rfl) dL_law_2023 ⟨(by show cells + 1 + 0 ≤ 601024; omega), (by show slots + 6 + 0 ≤ 7293034; omega)⟩ rfl (fun H locs X => ?_)
    have X := X.perm wL_swap.symm
    refine lv_istore (lv' := [(6, .int b), (5, .int 2), (0, .ref b0), (1, .ref (ag 0)), (2, .ref (am 0)), (3, .ref ao), (4, .int I)]) hx hb dL_law_2026 hl (by decide) rfl (fun ls hl => ?_)
    refine lv_aload_n hx hb dL_law_2028 rfl (lv_at hl 4 rfl) ?_
    have X := X.perm wL_swap
    have kx := m_X8_thrown l D ca am M' (wC ar ag ca P G ++ [(ao, oc ca O)]) 2 hT H.size
    refine x_callVw K hA X kx hl.1 0 q1380 q1381 q1382 q97 q1383 hv_X8_thrown ⟨⟨(Nat.le_of_ble_eq_true rfl), (Nat.le_of_ble_eq_true rfl)⟩, rfl, rfl⟩ pl_modo rfl rfl rfl rfl (Nat.le_of_ble_eq_true rfl) dL_law_2029 ⟨(by show cells + 1 + 0 ≤ 601024; omega), (by show slots + 6 + 0 ≤ 7293034; omega)⟩ rfl (fun H locs X => ?_)
    have X := X.perm wL_swap.symm
    refine lv_iload hx hb dL_law_2032 (lv_at hl 1 rfl) ?_
    refine lv_icmp_eq (tgt := 2039) hx hb dL_law_2034 (by decide) (fun _ => ?_) (fun c1 => absurd rfl c1)
    refine lv_iload hx hb dL_law_2039 (lv_at hl 1 rfl) ?_
    refine lv_if_ne (tgt := 2056) hx hb dL_law_2041 (by decide) (fun _ => ?_) (fun c1 => absurd c1 (by decide))
    refine lv_goto (tgt := 2302) hx hb dL_law_2056 (by decide) ?_
    exact kk P G M' O H locs ls hI X (lv_sub hl [2, 3, 4, 5, 6] rfl)
-- case 32
def OK_dropTube (Inv : RowsS → GlbS → RowS → Prop) (P : RowsS) (G : GlbS) (M : RowS) (a1 : Int32) : Prop :=
  (∃ (n : Nat) (res : Int32) (P' : RowsS) (G' : GlbS) (n2 : Nat) (b : Int32) (M' : RowS), f_X7_dropTube n P G a1 = some (res, P', G') ∧ f_X8_dropTube n2 M a1 = some (b, M') ∧ f_X8_thrown M' = 0 ∧ res.toInt64 = b.toInt64 ∧ Inv P' G' M') ∨
  (∃ (n2 : Nat) (b : Int32) (M' : RowS), t_X7_dropTube P G a1 = some 1 ∧ f_X8_dropTube n2 M a1 = some (b, M') ∧ f_X8_thrown M' = 1 ∧ Inv P G M')
set_option maxRecDepth 100000 in
set_option maxHeartbeats 4000000 in
theorem k_dropTube {p : Program} {l : Launch} {e : Env} {s : State} {m : MethodId} {args : Array Value} {below : List Frame} {meth : Method} {c : Code} {Q : State → Prop} {D : va_G} {A : Nat → Prop} {ar : Nat → Nat → Nat} {ag : Nat → Nat} {ca : Nat → ClassId} {am : Nat → Nat} {ao b0 L : Nat} {xs : Nat → Int32} {I : Int32} {Inv : RowsS → GlbS → RowS → Prop} {cells slots : Nat} {z : ZG} (K : MC D ca p s m args meth c cL_law 9 RL) (hl0 : l.stackTraces = false) (hA : ∀ q, s.heap.size ≤ q → A q) (hZ : ZF z A s s.heap) (hS : va_X b0 L xs s s.heap ∧ b0 < s.heap.size ∧ ¬ A b0) (hroom : cells + 1 ≤ 601024 ∧ slots + 6 ≤ 7293034) {a1 : Int32} (h1 : vp_in (I + 1) L ∧ xs (I + 1).toNatClampNeg = a1) {P : RowsS} {G : GlbS} {M : RowS} {O : Nat → Int64} {H : Heap} {locs : List Loc} {ls : Array Slot} (hok : OK_dropTube Inv P G M a1) (X : RX D A (wL ar ag ca am P G M ao O) s.heap H locs) (hl : lv_has ls 9 [(0, .ref b0), (1, .ref (ag 0)), (2, .ref (am 0)), (3, .ref ao), (4, .int I)]) (kk : LwAt p l e s m args below meth c Q D A ar ag ca am ao b0 I Inv (cells + 1) (slots + 6) 2302) : W p l e room_1 s m args below meth c H locs cells slots Q (F0 m 2059 ls []) := by
  have hx := K.1
  have hb := K.2.1
  unfold OK_dropTube at hok
  rcases hok with hok | hok
  · skip
    obtain ⟨n, res, P', G', n2, b, M', h7, h8, hT, hv, hI⟩ := hok
    refine lv_aload_n hx hb dL_law_2059 rfl (lv_at hl 1 rfl) ?_
    refine lv_aload_n hx hb dL_law_2060 rfl (lv_at hl 0 rfl) ?_
    refine lv_iload hx hb dL_law_2061 (lv_at hl 4 rfl) ?_
    refine lv_iconst (v := 1) hx hb dL_law_2063 (by decide) ?_
    refine lv_iadd hx hb dL_law_2064 ?_
    refine x_sld K X hS h1 dL_law_2065 ?_
    refine lv_aload_n hx hb dL_law_2066 rfl (lv_at hl 3 rfl) ?_
    have kx := n_L_dropTube l D ca ar ag z n P G (wM am ca M) ao O a1 res P' G' h7 H.size
    refine x_callSW K hA hZ X kx hl.1 3 q1053 q1054 q86 q1055 hs_L_dropTube ⟨⟨(Nat.le_of_ble_eq_true rfl), (Nat.le_of_ble_eq_true rfl)⟩, rfl, rfl⟩ rfl rfl (Nat.le_of_ble_eq_true rfl) dL_law_2067 ⟨hroom.1, hroom.2⟩ rfl (fun H locs X => ?_)
    refine lv_istore (lv' := [(5, .int 0), (0, .ref b0), (1, .ref (ag 0)), (2, .ref (am 0)), (3, .ref ao), (4, .int I)]) hx hb dL_law_2070 hl (by decide) rfl (fun ls hl => ?_)
    refine lv_aload_n hx hb dL_law_2072 rfl (lv_at hl 3 rfl) ?_
    refine lv_aload_n hx hb dL_law_2073 rfl (lv_at hl 1 rfl) ?_
    refine lv_iload hx hb dL_law_2074 (lv_at hl 5 rfl) ?_
    refine lv_iconst (v := 1) hx hb dL_law_2076 (by decide) ?_
    refine lv_iadd hx hb dL_law_2077 ?_
    refine x_sld K X hS h1 dL_law_2078 ?_
    have X := X.perm wL_swap
    have kx := m_X8_dropTube l D ca am n2 M (wC ar ag ca P' G' ++ [(ao, oc ca (va_up O 0 res.toInt64))]) a1 b M' h8 H.size
    refine x_callVw K hA X kx hl.1 1 q1877 q1878 q1879 q97 q1880 hv_X8_dropTube ⟨⟨(Nat.le_of_ble_eq_true rfl), (Nat.le_of_ble_eq_true rfl)⟩, rfl, rfl⟩ pl_modo rfl rfl rfl rfl (Nat.le_of_ble_eq_true rfl) dL_law_2079 ⟨(by show cells + 1 + 0 ≤ 601024; omega), (by show slots + 6 + 0 ≤ 7293034; omega)⟩ rfl (fun H locs X => ?_)
    have X := X.perm wL_swap.symm
    refine lv_istore (lv' := [(6, .int b), (5, .int 0), (0, .ref b0), (1, .ref (ag 0)), (2, .ref (am 0)), (3, .ref ao), (4, .int I)]) hx hb dL_law_2082 hl (by decide) rfl (fun ls hl => ?_)
    refine lv_aload_n hx hb dL_law_2084 rfl (lv_at hl 4 rfl) ?_
    have X := X.perm wL_swap
    have kx := m_X8_thrown l D ca am M' (wC ar ag ca P' G' ++ [(ao, oc ca (va_up O 0 res.toInt64))]) 0 hT H.size
    refine x_callVw K hA X kx hl.1 0 q1380 q1381 q1382 q97 q1383 hv_X8_thrown ⟨⟨(Nat.le_of_ble_eq_true rfl), (Nat.le_of_ble_eq_true rfl)⟩, rfl, rfl⟩ pl_modo rfl rfl rfl rfl (Nat.le_of_ble_eq_true rfl) dL_law_2085 ⟨(by show cells + 1 + 0 ≤ 601024; omega), (by show slots + 6 + 0 ≤ 7293034; omega)⟩ rfl (fun H locs X => ?_)
    have X := X.perm wL_swap.symm
    refine lv_iload hx hb dL_law_2088 (lv_at hl 1 rfl) ?_
    refine lv_icmp_eq (tgt := 2095) hx hb dL_law_2090 (by decide) (fun _ => ?_) (fun c1 => absurd rfl c1)
    refine lv_iload hx hb dL_law_2095 (lv_at hl 1 rfl) ?_
    refine lv_if_ne (tgt := 2112) hx hb dL_law_2097 (by decide) (fun c1 => absurd rfl c1) (fun _ => ?_)
    refine lv_aload_n hx hb dL_law_2100 rfl (lv_at hl 5 rfl) ?_
    refine lv_iconst (v := 0) hx hb dL_law_2101 (by decide) ?_
    refine x_lald K X (241 + (wM am ca M').length) ctor_atw (vp_in_iff.mpr (by decide)) dL_law_2102 ?_
    refine lv_iload hx hb dL_law_2103 (lv_at hl 0 rfl) ?_
    refine lv_i2l hx hb dL_law_2105 rfl ?_
    refine w_beq (tgt := 2112) K dL_law_2106 dL_law_2107 (by decide) (fun _ => ?_) (fun c1 => absurd (by rw [show (0 : Int32).toNatClampNeg = 0 from rfl, va_up_self]; exact hv) c1)
    refine lv_goto (tgt := 2302) hx hb dL_law_2112 (by decide) ?_
    exact kk P' G' M' (va_up O 0 res.toInt64) H locs ls hI X (lv_sub hl [2, 3, 4, 5, 6] rfl)
  · skip
    obtain ⟨n2, b, M', ht, h8, hT, hI⟩ := hok
    refine lv_aload_n hx hb dL_law_2059 rfl (lv_at hl 1 rfl) ?_
    refine lv_aload_n hx hb dL_law_2060 rfl (lv_at hl 0 rfl) ?_
    refine lv_iload hx hb dL_law_2061 (lv_at hl 4 rfl) ?_
    refine lv_iconst (v := 1) hx hb dL_law_2063 (by decide) ?_
    refine lv_iadd hx hb dL_law_2064 ?_
    refine x_sld K X hS h1 dL_law_2065 ?_
    refine lv_aload_n hx hb dL_law_2066 rfl (lv_at hl 3 rfl) ?_
    have kx := e1_L_dropTube l D ca ar ag z hl0 P G (wM am ca M) ao O a1 ht H.size
    refine x_callSW K hA hZ X kx hl.1 3 q1053 q1054 q86 q1055 hs_L_dropTube ⟨⟨(Nat.le_of_ble_eq_true rfl), (Nat.le_of_ble_eq_true rfl)⟩, rfl, rfl⟩ rfl rfl (Nat.le_of_ble_eq_true rfl) dL_law_2067 ⟨hroom.1, hroom.2⟩ rfl (fun H locs X => ?_)
    refine lv_istore (lv' := [(5, .int 1), (0, .ref b0), (1, .ref (ag 0)), (2, .ref (am 0)), (3, .ref ao), (4, .int I)]) hx hb dL_law_2070 hl (by decide) rfl (fun ls hl => ?_)
    refine lv_aload_n hx hb dL_law_2072 rfl (lv_at hl 3 rfl) ?_
    refine lv_aload_n hx hb dL_law_2073 rfl (lv_at hl 1 rfl) ?_
    refine lv_iload hx hb dL_law_2074 (lv_at hl 5 rfl) ?_
    refine lv_iconst (v := 1) hx hb dL_law_2076 (by decide) ?_
    refine lv_iadd hx hb dL_law_2077 ?_
    refine x_sld K X hS h1 dL_law_2078 ?_
    have X := X.perm wL_swap
    have kx := m_X8_dropTube l D ca am n2 M (wC ar ag ca P G ++ [(ao, oc ca O)]) a1 b M' h8 H.size
    refine x_callVw K hA X kx hl.1 1 q1877 q1878 q1879 q97 q1880 hv_X8_dropTube ⟨⟨(Nat.le_of_ble_eq_true rfl), (Nat.le_of_ble_eq_true rfl)⟩, rfl, rfl⟩ pl_modo rfl rfl rfl rfl (Nat.le_of_ble_eq_true rfl) dL_law_2079 ⟨(by show cells + 1 + 0 ≤ 601024; omega), (by show slots + 6 + 0 ≤ 7293034; omega)⟩ rfl (fun H locs X => ?_)
    have X := X.perm wL_swap.symm
    refine lv_istore (lv' := [(6, .int b), (5, .int 1), (0, .ref b0), (1, .ref (ag 0)), (2, .ref (am 0)), (3, .ref ao), (4, .int I)]) hx hb dL_law_2082 hl (by decide) rfl (fun ls hl => ?_)
    refine lv_aload_n hx hb dL_law_2084 rfl (lv_at hl 4 rfl) ?_
    have X := X.perm wL_swap
    have kx := m_X8_thrown l D ca am M' (wC ar ag ca P G ++ [(ao, oc ca O)]) 1 hT H.size
    refine x_callVw K hA X kx hl.1 0 q1380 q1381 q1382 q97 q1383 hv_X8_thrown ⟨⟨(Nat.le_of_ble_eq_true rfl), (Nat.le_of_ble_eq_true rfl)⟩, rfl, rfl⟩ pl_modo rfl rfl rfl rfl (Nat.le_of_ble_eq_true rfl) dL_law_2085 ⟨(by show cells + 1 + 0 ≤ 601024; omega), (by show slots + 6 + 0 ≤ 7293034; omega)⟩ rfl (fun H locs X => ?_)
    have X := X.perm wL_swap.symm
    refine lv_iload hx hb dL_law_2088 (lv_at hl 1 rfl) ?_
    refine lv_icmp_eq (tgt := 2095) hx hb dL_law_2090 (by decide) (fun _ => ?_) (fun c1 => absurd rfl c1)
    refine lv_iload hx hb dL_law_2095 (lv_at hl 1 rfl) ?_
    refine lv_if_ne (tgt := 2112) hx hb dL_law_2097 (by decide) (fun _ => ?_) (fun c1 => absurd c1 (by decide))
    refine lv_goto (tgt := 2302) hx hb dL_law_2112 (by decide) ?_
    exact kk P G M' O H locs ls hI X (lv_sub hl [2, 3, 4, 5, 6] rfl)
-- case 33
def OK_format (Inv : RowsS → GlbS → RowS → Prop) (P : RowsS) (G : GlbS) (M : RowS) (a1 : Int32) : Prop :=
  (∃ (n : Nat) (res : Int32) (G' : GlbS) (n2 : Nat) (b : Int32) (M' : RowS), f_X7_format n P G a1 = some (res, G') ∧ f_X8_format n2 M a1 = some (b, M') ∧ f_X8_thrown M' = 0 ∧ res.toInt64 = b.toInt64 ∧ Inv P G' M') ∨
  (∃ (n2 : Nat) (b : Int32) (M' : RowS), t_X7_format P G a1 = some 1 ∧ f_X8_format n2 M a1 = some (b, M') ∧ f_X8_thrown M' = 1 ∧ Inv P G M')
set_option maxRecDepth 100000 in
set_option maxHeartbeats 4000000 in
theorem k_format {p : Program} {l : Launch} {e : Env} {s : State} {m : MethodId} {args : Array Value} {below : List Frame} {meth : Method} {c : Code} {Q : State → Prop} {D : va_G} {A : Nat → Prop} {ar : Nat → Nat → Nat} {ag : Nat → Nat} {ca : Nat → ClassId} {am : Nat → Nat} {ao b0 L : Nat} {xs : Nat → Int32} {I : Int32} {Inv : RowsS → GlbS → RowS → Prop} {cells slots : Nat} {z : ZG} (K : MC D ca p s m args meth c cL_law 9 RL) (hl0 : l.stackTraces = false) (hA : ∀ q, s.heap.size ≤ q → A q) (hZ : ZF z A s s.heap) (hS : va_X b0 L xs s s.heap ∧ b0 < s.heap.size ∧ ¬ A b0) (hroom : cells + 1 ≤ 601024 ∧ slots + 6 ≤ 7293034) {a1 : Int32} (h1 : vp_in (I + 1) L ∧ xs (I + 1).toNatClampNeg = a1) {P : RowsS} {G : GlbS} {M : RowS} {O : Nat → Int64} {H : Heap} {locs : List Loc} {ls : Array Slot} (hok : OK_format Inv P G M a1) (X : RX D A (wL ar ag ca am P G M ao O) s.heap H locs) (hl : lv_has ls 9 [(0, .ref b0), (1, .ref (ag 0)), (2, .ref (am 0)), (3, .ref ao), (4, .int I)]) (kk : LwAt p l e s m args below meth c Q D A ar ag ca am ao b0 I Inv (cells + 1) (slots + 6) 2302) : W p l e room_1 s m args below meth c H locs cells slots Q (F0 m 2115 ls []) := by
  have hx := K.1
  have hb := K.2.1
  unfold OK_format at hok
  rcases hok with hok | hok
  · skip
    obtain ⟨n, res, G', n2, b, M', h7, h8, hT, hv, hI⟩ := hok
    refine lv_aload_n hx hb dL_law_2115 rfl (lv_at hl 1 rfl) ?_
    refine lv_aload_n hx hb dL_law_2116 rfl (lv_at hl 0 rfl) ?_
    refine lv_iload hx hb dL_law_2117 (lv_at hl 4 rfl) ?_
    refine lv_iconst (v := 1) hx hb dL_law_2119 (by decide) ?_
    refine lv_iadd hx hb dL_law_2120 ?_
    refine x_sld K X hS h1 dL_law_2121 ?_
    refine lv_aload_n hx hb dL_law_2122 rfl (lv_at hl 3 rfl) ?_
    have kx := n_L_format l D ca ar ag z n P G (wM am ca M) ao O a1 res G' h7 H.size
    refine x_callSW K hA hZ X kx hl.1 3 q1064 q1065 q86 q1066 hs_L_format ⟨⟨(Nat.le_of_ble_eq_true rfl), (Nat.le_of_ble_eq_true rfl)⟩, rfl, rfl⟩ rfl rfl (Nat.le_of_ble_eq_true rfl) dL_law_2123 ⟨hroom.1, hroom.2⟩ rfl (fun H locs X => ?_)
    refine lv_istore (lv' := [(5, .int 0), (0, .ref b0), (1, .ref (ag 0)), (2, .ref (am 0)), (3, .ref ao), (4, .int I)]) hx hb dL_law_2126 hl (by decide) rfl (fun ls hl => ?_)
    refine lv_aload_n hx hb dL_law_2128 rfl (lv_at hl 3 rfl) ?_
    refine lv_aload_n hx hb dL_law_2129 rfl (lv_at hl 1 rfl) ?_
    refine lv_iload hx hb dL_law_2130 (lv_at hl 5 rfl) ?_
    refine lv_iconst (v := 1) hx hb dL_law_2132 (by decide) ?_
    refine lv_iadd hx hb dL_law_2133 ?_
    refine x_sld K X hS h1 dL_law_2134 ?_
    have X := X.perm wL_swap
    have kx := m_X8_format l D ca am n2 M (wC ar ag ca P G' ++ [(ao, oc ca (va_up O 0 res.toInt64))]) a1 b M' h8 H.size
    refine x_callVw K hA X kx hl.1 1 q1897 q1898 q1899 q97 q1900 hv_X8_format ⟨⟨(Nat.le_of_ble_eq_true rfl), (Nat.le_of_ble_eq_true rfl)⟩, rfl, rfl⟩ pl_modo rfl rfl rfl rfl (Nat.le_of_ble_eq_true rfl) dL_law_2135 ⟨(by show cells + 1 + 0 ≤ 601024; omega), (by show slots + 6 + 0 ≤ 7293034; omega)⟩ rfl (fun H locs X => ?_)
    have X := X.perm wL_swap.symm
    refine lv_istore (lv' := [(6, .int b), (5, .int 0), (0, .ref b0), (1, .ref (ag 0)), (2, .ref (am 0)), (3, .ref ao), (4, .int I)]) hx hb dL_law_2138 hl (by decide) rfl (fun ls hl => ?_)
    refine lv_aload_n hx hb dL_law_2140 rfl (lv_at hl 4 rfl) ?_
    have X := X.perm wL_swap
    have kx := m_X8_thrown l D ca am M' (wC ar ag ca P G' ++ [(ao, oc ca (va_up O 0 res.toInt64))]) 0 hT H.size
    refine x_callVw K hA X kx hl.1 0 q1380 q1381 q1382 q97 q1383 hv_X8_thrown ⟨⟨(Nat.le_of_ble_eq_true rfl), (Nat.le_of_ble_eq_true rfl)⟩, rfl, rfl⟩ pl_modo rfl rfl rfl rfl (Nat.le_of_ble_eq_true rfl) dL_law_2141 ⟨(by show cells + 1 + 0 ≤ 601024; omega), (by show slots + 6 + 0 ≤ 7293034; omega)⟩ rfl (fun H locs X => ?_)
    have X := X.perm wL_swap.symm
    refine lv_iload hx hb dL_law_2144 (lv_at hl 1 rfl) ?_
    refine lv_icmp_eq (tgt := 2151) hx hb dL_law_2146 (by decide) (fun _ => ?_) (fun c1 => absurd rfl c1)
    refine lv_iload hx hb dL_law_2151 (lv_at hl 1 rfl) ?_
    refine lv_if_ne (tgt := 2168) hx hb dL_law_2153 (by decide) (fun c1 => absurd rfl c1) (fun _ => ?_)
    refine lv_aload_n hx hb dL_law_2156 rfl (lv_at hl 5 rfl) ?_
    refine lv_iconst (v := 0) hx hb dL_law_2157 (by decide) ?_
    refine x_lald K X (241 + (wM am ca M').length) ctor_atw (vp_in_iff.mpr (by decide)) dL_law_2158 ?_
    refine lv_iload hx hb dL_law_2159 (lv_at hl 0 rfl) ?_
    refine lv_i2l hx hb dL_law_2161 rfl ?_
    refine w_beq (tgt := 2168) K dL_law_2162 dL_law_2163 (by decide) (fun _ => ?_) (fun c1 => absurd (by rw [show (0 : Int32).toNatClampNeg = 0 from rfl, va_up_self]; exact hv) c1)
    refine lv_goto (tgt := 2302) hx hb dL_law_2168 (by decide) ?_
    exact kk P G' M' (va_up O 0 res.toInt64) H locs ls hI X (lv_sub hl [2, 3, 4, 5, 6] rfl)
  · skip
    obtain ⟨n2, b, M', ht, h8, hT, hI⟩ := hok
    refine lv_aload_n hx hb dL_law_2115 rfl (lv_at hl 1 rfl) ?_
    refine lv_aload_n hx hb dL_law_2116 rfl (lv_at hl 0 rfl) ?_
    refine lv_iload hx hb dL_law_2117 (lv_at hl 4 rfl) ?_
    refine lv_iconst (v := 1) hx hb dL_law_2119 (by decide) ?_
    refine lv_iadd hx hb dL_law_2120 ?_
    refine x_sld K X hS h1 dL_law_2121 ?_
    refine lv_aload_n hx hb dL_law_2122 rfl (lv_at hl 3 rfl) ?_
    have kx := e1_L_format l D ca ar ag z hl0 P G (wM am ca M) ao O a1 ht H.size
    refine x_callSW K hA hZ X kx hl.1 3 q1064 q1065 q86 q1066 hs_L_format ⟨⟨(Nat.le_of_ble_eq_true rfl), (Nat.le_of_ble_eq_true rfl)⟩, rfl, rfl⟩ rfl rfl (Nat.le_of_ble_eq_true rfl) dL_law_2123 ⟨hroom.1, hroom.2⟩ rfl (fun H locs X => ?_)
    refine lv_istore (lv' := [(5, .int 1), (0, .ref b0), (1, .ref (ag 0)), (2, .ref (am 0)), (3, .ref ao), (4, .int I)]) hx hb dL_law_2126 hl (by decide) rfl (fun ls hl => ?_)
    refine lv_aload_n hx hb dL_law_2128 rfl (lv_at hl 3 rfl) ?_
    refine lv_aload_n hx hb dL_law_2129 rfl (lv_at hl 1 rfl) ?_
    refine lv_iload hx hb dL_law_2130 (lv_at hl 5 rfl) ?_
    refine lv_iconst (v := 1) hx hb dL_law_2132 (by decide) ?_
    refine lv_iadd hx hb dL_law_2133 ?_
    refine x_sld K X hS h1 dL_law_2134 ?_
    have X := X.perm wL_swap
    have kx := m_X8_format l D ca am n2 M (wC ar ag ca P G ++ [(ao, oc ca O)]) a1 b M' h8 H.size
    refine x_callVw K hA X kx hl.1 1 q1897 q1898 q1899 q97 q1900 hv_X8_format ⟨⟨(Nat.le_of_ble_eq_true rfl), (Nat.le_of_ble_eq_true rfl)⟩, rfl, rfl⟩ pl_modo rfl rfl rfl rfl (Nat.le_of_ble_eq_true rfl) dL_law_2135 ⟨(by show cells + 1 + 0 ≤ 601024; omega), (by show slots + 6 + 0 ≤ 7293034; omega)⟩ rfl (fun H locs X => ?_)
    have X := X.perm wL_swap.symm
    refine lv_istore (lv' := [(6, .int b), (5, .int 1), (0, .ref b0), (1, .ref (ag 0)), (2, .ref (am 0)), (3, .ref ao), (4, .int I)]) hx hb dL_law_2138 hl (by decide) rfl (fun ls hl => ?_)
    refine lv_aload_n hx hb dL_law_2140 rfl (lv_at hl 4 rfl) ?_
    have X := X.perm wL_swap
    have kx := m_X8_thrown l D ca am M' (wC ar ag ca P G ++ [(ao, oc ca O)]) 1 hT H.size
    refine x_callVw K hA X kx hl.1 0 q1380 q1381 q1382 q97 q1383 hv_X8_thrown ⟨⟨(Nat.le_of_ble_eq_true rfl), (Nat.le_of_ble_eq_true rfl)⟩, rfl, rfl⟩ pl_modo rfl rfl rfl rfl (Nat.le_of_ble_eq_true rfl) dL_law_2141 ⟨(by show cells + 1 + 0 ≤ 601024; omega), (by show slots + 6 + 0 ≤ 7293034; omega)⟩ rfl (fun H locs X => ?_)
    have X := X.perm wL_swap.symm
    refine lv_iload hx hb dL_law_2144 (lv_at hl 1 rfl) ?_
    refine lv_icmp_eq (tgt := 2151) hx hb dL_law_2146 (by decide) (fun _ => ?_) (fun c1 => absurd rfl c1)
    refine lv_iload hx hb dL_law_2151 (lv_at hl 1 rfl) ?_
    refine lv_if_ne (tgt := 2168) hx hb dL_law_2153 (by decide) (fun _ => ?_) (fun c1 => absurd c1 (by decide))
    refine lv_goto (tgt := 2302) hx hb dL_law_2168 (by decide) ?_
    exact kk P G M' O H locs ls hI X (lv_sub hl [2, 3, 4, 5, 6] rfl)
-- case 34
def OK_formattedByte (Inv : RowsS → GlbS → RowS → Prop) (P : RowsS) (G : GlbS) (M : RowS) (a1 : Int32) : Prop :=
  (∃ (res : Int32) (b : Int32) (M' : RowS), f_X7_formattedByte P G a1 = some res ∧ f_X8_formattedByte M a1 = some (b, M') ∧ res = b ∧ Inv P G M')
set_option maxRecDepth 100000 in
set_option maxHeartbeats 4000000 in
theorem k_formattedByte {p : Program} {l : Launch} {e : Env} {s : State} {m : MethodId} {args : Array Value} {below : List Frame} {meth : Method} {c : Code} {Q : State → Prop} {D : va_G} {A : Nat → Prop} {ar : Nat → Nat → Nat} {ag : Nat → Nat} {ca : Nat → ClassId} {am : Nat → Nat} {ao b0 L : Nat} {xs : Nat → Int32} {I : Int32} {Inv : RowsS → GlbS → RowS → Prop} {cells slots : Nat} {z : ZG} (K : MC D ca p s m args meth c cL_law 9 RL) (hl0 : l.stackTraces = false) (hA : ∀ q, s.heap.size ≤ q → A q) (hZ : ZF z A s s.heap) (hS : va_X b0 L xs s s.heap ∧ b0 < s.heap.size ∧ ¬ A b0) (hroom : cells + 1 ≤ 601024 ∧ slots + 6 ≤ 7293034) {a1 : Int32} (h1 : vp_in (I + 1) L ∧ xs (I + 1).toNatClampNeg = a1) {P : RowsS} {G : GlbS} {M : RowS} {O : Nat → Int64} {H : Heap} {locs : List Loc} {ls : Array Slot} (hok : OK_formattedByte Inv P G M a1) (X : RX D A (wL ar ag ca am P G M ao O) s.heap H locs) (hl : lv_has ls 9 [(0, .ref b0), (1, .ref (ag 0)), (2, .ref (am 0)), (3, .ref ao), (4, .int I)]) (kk : LwAt p l e s m args below meth c Q D A ar ag ca am ao b0 I Inv (cells + 1) (slots + 6) 2302) : W p l e room_1 s m args below meth c H locs cells slots Q (F0 m 2171 ls []) := by
  have hx := K.1
  have hb := K.2.1
  obtain ⟨res, b, M', h7, h8, hv, hI⟩ := hok
  refine lv_aload_n hx hb dL_law_2171 rfl (lv_at hl 1 rfl) ?_
  refine lv_aload_n hx hb dL_law_2172 rfl (lv_at hl 0 rfl) ?_
  refine lv_iload hx hb dL_law_2173 (lv_at hl 4 rfl) ?_
  refine lv_iconst (v := 1) hx hb dL_law_2175 (by decide) ?_
  refine lv_iadd hx hb dL_law_2176 ?_
  refine x_sld K X hS h1 dL_law_2177 ?_
  have kx := m_X7_formattedByte l D ca ar ag z P G (wM am ca M ++ [(ao, oc ca O)]) a1 res h7 H.size
  refine x_callVz K hA hZ X kx hl.1 1 q460 q461 q462 q87 q463 hv_X7_formattedByte ⟨⟨(Nat.le_of_ble_eq_true rfl), (Nat.le_of_ble_eq_true rfl)⟩, rfl, rfl⟩ (pl_glb (k := 0) (by decide)) rfl rfl rfl rfl (Nat.le_of_ble_eq_true rfl) dL_law_2178 ⟨(by show cells + 0 ≤ 601024; omega), (by show slots + 0 ≤ 7293034; omega)⟩ rfl (fun H locs X => ?_)
  refine lv_aload_n hx hb dL_law_2181 rfl (lv_at hl 2 rfl) ?_
  refine lv_aload_n hx hb dL_law_2182 rfl (lv_at hl 0 rfl) ?_
  refine lv_iload hx hb dL_law_2183 (lv_at hl 4 rfl) ?_
  refine lv_iconst (v := 1) hx hb dL_law_2185 (by decide) ?_
  refine lv_iadd hx hb dL_law_2186 ?_
  refine x_sld K X hS h1 dL_law_2187 ?_
  have X := X.perm wL_swap
  have kx := m_X8_formattedByte l D ca am M (wC ar ag ca P G ++ [(ao, oc ca O)]) a1 b M' h8 H.size
  refine x_callVw K hA X kx hl.1 1 q1920 q1921 q1922 q97 q1923 hv_X8_formattedByte ⟨⟨(Nat.le_of_ble_eq_true rfl), (Nat.le_of_ble_eq_true rfl)⟩, rfl, rfl⟩ pl_modo rfl rfl rfl rfl (Nat.le_of_ble_eq_true rfl) dL_law_2188 ⟨(by show cells + 0 ≤ 601024; omega), (by show slots + 0 ≤ 7293034; omega)⟩ rfl (fun H locs X => ?_)
  have X := X.perm wL_swap.symm
  refine lv_icmp_eq (tgt := 2302) hx hb dL_law_2191 (by decide) (fun _ => ?_) (fun c1 => absurd hv c1)
  exact w_widen (Nat.le_add_right cells 1) (Nat.le_add_right slots 6) (kk P G M' O H locs ls hI X (lv_sub hl [0, 1, 2, 3, 4] rfl))
-- case 35
def OK_undoCount (Inv : RowsS → GlbS → RowS → Prop) (P : RowsS) (G : GlbS) (M : RowS) : Prop :=
  (∃ (res : Int32) (b : Int32) (M' : RowS), f_X7_undoCount P G = res ∧ f_X8_undoCount M = (b, M') ∧ res = b ∧ Inv P G M')
set_option maxRecDepth 100000 in
set_option maxHeartbeats 4000000 in
theorem k_undoCount {p : Program} {l : Launch} {e : Env} {s : State} {m : MethodId} {args : Array Value} {below : List Frame} {meth : Method} {c : Code} {Q : State → Prop} {D : va_G} {A : Nat → Prop} {ar : Nat → Nat → Nat} {ag : Nat → Nat} {ca : Nat → ClassId} {am : Nat → Nat} {ao b0 L : Nat} {xs : Nat → Int32} {I : Int32} {Inv : RowsS → GlbS → RowS → Prop} {cells slots : Nat} {z : ZG} (K : MC D ca p s m args meth c cL_law 9 RL) (hl0 : l.stackTraces = false) (hA : ∀ q, s.heap.size ≤ q → A q) (hZ : ZF z A s s.heap) (hS : va_X b0 L xs s s.heap ∧ b0 < s.heap.size ∧ ¬ A b0) (hroom : cells + 1 ≤ 601024 ∧ slots + 6 ≤ 7293034) {P : RowsS} {G : GlbS} {M : RowS} {O : Nat → Int64} {H : Heap} {locs : List Loc} {ls : Array Slot} (hok : OK_undoCount Inv P G M) (X : RX D A (wL ar ag ca am P G M ao O) s.heap H locs) (hl : lv_has ls 9 [(0, .ref b0), (1, .ref (ag 0)), (2, .ref (am 0)), (3, .ref ao), (4, .int I)]) (kk : LwAt p l e s m args below meth c Q D A ar ag ca am ao b0 I Inv (cells + 1) (slots + 6) 2302) : W p l e room_1 s m args below meth c H locs cells slots Q (F0 m 2196 ls []) := by
  have hx := K.1
  have hb := K.2.1
  obtain ⟨res, b, M', h7, h8, hv, hI⟩ := hok
  refine lv_aload_n hx hb dL_law_2196 rfl (lv_at hl 1 rfl) ?_
  have kx := m_X7_undoCount l D ca ar ag P G (wM am ca M ++ [(ao, oc ca O)]) res h7 H.size
  refine x_callVw K hA X kx hl.1 0 q501 q502 q503 q87 q504 hv_X7_undoCount ⟨⟨(Nat.le_of_ble_eq_true rfl), (Nat.le_of_ble_eq_true rfl)⟩, rfl, rfl⟩ (pl_glb (k := 0) (by decide)) rfl rfl rfl rfl (Nat.le_of_ble_eq_true rfl) dL_law_2197 ⟨(by show cells + 0 ≤ 601024; omega), (by show slots + 0 ≤ 7293034; omega)⟩ rfl (fun H locs X => ?_)
  refine lv_aload_n hx hb dL_law_2200 rfl (lv_at hl 2 rfl) ?_
  have X := X.perm wL_swap
  have kx := m_X8_undoCount l D ca am M (wC ar ag ca P G ++ [(ao, oc ca O)]) b M' h8 H.size
  refine x_callVw K hA X kx hl.1 0 q1881 q1882 q1883 q97 q1884 hv_X8_undoCount ⟨⟨(Nat.le_of_ble_eq_true rfl), (Nat.le_of_ble_eq_true rfl)⟩, rfl, rfl⟩ pl_modo rfl rfl rfl rfl (Nat.le_of_ble_eq_true rfl) dL_law_2201 ⟨(by show cells + 0 ≤ 601024; omega), (by show slots + 0 ≤ 7293034; omega)⟩ rfl (fun H locs X => ?_)
  have X := X.perm wL_swap.symm
  refine lv_icmp_eq (tgt := 2302) hx hb dL_law_2204 (by decide) (fun _ => ?_) (fun c1 => absurd hv c1)
  exact w_widen (Nat.le_add_right cells 1) (Nat.le_add_right slots 6) (kk P G M' O H locs ls hI X (lv_sub hl [0, 1, 2, 3, 4] rfl))
-- case 36
def OK_undo (Inv : RowsS → GlbS → RowS → Prop) (P : RowsS) (G : GlbS) (M : RowS) : Prop :=
  (∃ (n : Nat) (res : Int32) (P' : RowsS) (G' : GlbS) (n2 : Nat) (b : Int32) (M' : RowS), f_X7_undo n P G = some (res, P', G') ∧ f_X8_undo n2 M = some (b, M') ∧ res = b ∧ Inv P' G' M')
set_option maxRecDepth 100000 in
set_option maxHeartbeats 4000000 in
theorem k_undo {p : Program} {l : Launch} {e : Env} {s : State} {m : MethodId} {args : Array Value} {below : List Frame} {meth : Method} {c : Code} {Q : State → Prop} {D : va_G} {A : Nat → Prop} {ar : Nat → Nat → Nat} {ag : Nat → Nat} {ca : Nat → ClassId} {am : Nat → Nat} {ao b0 L : Nat} {xs : Nat → Int32} {I : Int32} {Inv : RowsS → GlbS → RowS → Prop} {cells slots : Nat} {z : ZG} (K : MC D ca p s m args meth c cL_law 9 RL) (hl0 : l.stackTraces = false) (hA : ∀ q, s.heap.size ≤ q → A q) (hZ : ZF z A s s.heap) (hS : va_X b0 L xs s s.heap ∧ b0 < s.heap.size ∧ ¬ A b0) (hroom : cells + 1 ≤ 601024 ∧ slots + 6 ≤ 7293034) {P : RowsS} {G : GlbS} {M : RowS} {O : Nat → Int64} {H : Heap} {locs : List Loc} {ls : Array Slot} (hok : OK_undo Inv P G M) (X : RX D A (wL ar ag ca am P G M ao O) s.heap H locs) (hl : lv_has ls 9 [(0, .ref b0), (1, .ref (ag 0)), (2, .ref (am 0)), (3, .ref ao), (4, .int I)]) (kk : LwAt p l e s m args below meth c Q D A ar ag ca am ao b0 I Inv (cells + 1) (slots + 6) 2302) : W p l e room_1 s m args below meth c H locs cells slots Q (F0 m 2209 ls []) := by
  have hx := K.1
  have hb := K.2.1
  obtain ⟨n, res, P', G', n2, b, M', h7, h8, hv, hI⟩ := hok
  refine lv_aload_n hx hb dL_law_2209 rfl (lv_at hl 1 rfl) ?_
  have kx := m_X7_undo l D ca ar ag n P G (wM am ca M ++ [(ao, oc ca O)]) res P' G' h7 H.size
  refine x_callVw K hA X kx hl.1 0 q505 q506 q507 q87 q508 hv_X7_undo ⟨⟨(Nat.le_of_ble_eq_true rfl), (Nat.le_of_ble_eq_true rfl)⟩, rfl, rfl⟩ (pl_glb (k := 0) (by decide)) rfl rfl rfl rfl (Nat.le_of_ble_eq_true rfl) dL_law_2210 ⟨(by show cells + 0 ≤ 601024; omega), (by show slots + 0 ≤ 7293034; omega)⟩ rfl (fun H locs X => ?_)
  refine lv_aload_n hx hb dL_law_2213 rfl (lv_at hl 2 rfl) ?_
  have X := X.perm wL_swap
  have kx := m_X8_undo l D ca am n2 M (wC ar ag ca P' G' ++ [(ao, oc ca O)]) b M' h8 H.size
  refine x_callVw K hA X kx hl.1 0 q1885 q1886 q1887 q97 q1888 hv_X8_undo ⟨⟨(Nat.le_of_ble_eq_true rfl), (Nat.le_of_ble_eq_true rfl)⟩, rfl, rfl⟩ pl_modo rfl rfl rfl rfl (Nat.le_of_ble_eq_true rfl) dL_law_2214 ⟨(by show cells + 0 ≤ 601024; omega), (by show slots + 0 ≤ 7293034; omega)⟩ rfl (fun H locs X => ?_)
  have X := X.perm wL_swap.symm
  refine lv_icmp_eq (tgt := 2302) hx hb dL_law_2217 (by decide) (fun _ => ?_) (fun c1 => absurd hv c1)
  exact w_widen (Nat.le_add_right cells 1) (Nat.le_add_right slots 6) (kk P' G' M' O H locs ls hI X (lv_sub hl [0, 1, 2, 3, 4] rfl))
-- case 37
def OK_saveSnapshot (Inv : RowsS → GlbS → RowS → Prop) (P : RowsS) (G : GlbS) (M : RowS) : Prop :=
  (∃ (n : Nat) (P' : RowsS) (G' : GlbS) (n2 : Nat) (M' : RowS), f_X7_saveSnapshot n P G = some (P', G') ∧ f_X8_saveSnapshot n2 M = some M' ∧ Inv P' G' M')
set_option maxRecDepth 100000 in
set_option maxHeartbeats 4000000 in
theorem k_saveSnapshot {p : Program} {l : Launch} {e : Env} {s : State} {m : MethodId} {args : Array Value} {below : List Frame} {meth : Method} {c : Code} {Q : State → Prop} {D : va_G} {A : Nat → Prop} {ar : Nat → Nat → Nat} {ag : Nat → Nat} {ca : Nat → ClassId} {am : Nat → Nat} {ao b0 L : Nat} {xs : Nat → Int32} {I : Int32} {Inv : RowsS → GlbS → RowS → Prop} {cells slots : Nat} {z : ZG} (K : MC D ca p s m args meth c cL_law 9 RL) (hl0 : l.stackTraces = false) (hA : ∀ q, s.heap.size ≤ q → A q) (hZ : ZF z A s s.heap) (hS : va_X b0 L xs s s.heap ∧ b0 < s.heap.size ∧ ¬ A b0) (hroom : cells + 1 ≤ 601024 ∧ slots + 6 ≤ 7293034) {P : RowsS} {G : GlbS} {M : RowS} {O : Nat → Int64} {H : Heap} {locs : List Loc} {ls : Array Slot} (hok : OK_saveSnapshot Inv P G M) (X : RX D A (wL ar ag ca am P G M ao O) s.heap H locs) (hl : lv_has ls 9 [(0, .ref b0), (1, .ref (ag 0)), (2, .ref (am 0)), (3, .ref ao), (4, .int I)]) (kk : LwAt p l e s m args below meth c Q D A ar ag ca am ao b0 I Inv (cells + 1) (slots + 6) 2302) : W p l e room_1 s m args below meth c H locs cells slots Q (F0 m 2222 ls []) := by
  have hx := K.1
  have hb := K.2.1
  obtain ⟨n, P', G', n2, M', h7, h8, hI⟩ := hok
  refine lv_aload_n hx hb dL_law_2222 rfl (lv_at hl 1 rfl) ?_
  have kx := m_X7_saveSnapshot l D ca ar ag n P G (wM am ca M ++ [(ao, oc ca O)]) P' G' h7 H.size
  refine x_callVw K hA X kx hl.1 0 q536 q537 q538 q87 q539 hv_X7_saveSnapshot ⟨⟨(Nat.le_of_ble_eq_true rfl), (Nat.le_of_ble_eq_true rfl)⟩, rfl, rfl⟩ (pl_glb (k := 0) (by decide)) rfl rfl rfl rfl (Nat.le_of_ble_eq_true rfl) dL_law_2223 ⟨(by show cells + 0 ≤ 601024; omega), (by show slots + 0 ≤ 7293034; omega)⟩ rfl (fun H locs X => ?_)
  refine lv_aload_n hx hb dL_law_2226 rfl (lv_at hl 2 rfl) ?_
  have X := X.perm wL_swap
  have kx := m_X8_saveSnapshot l D ca am n2 M (wC ar ag ca P' G' ++ [(ao, oc ca O)]) M' h8 H.size
  refine x_callVw K hA X kx hl.1 0 q1889 q1890 q1891 q97 q1892 hv_X8_saveSnapshot ⟨⟨(Nat.le_of_ble_eq_true rfl), (Nat.le_of_ble_eq_true rfl)⟩, rfl, rfl⟩ pl_modo rfl rfl rfl rfl (Nat.le_of_ble_eq_true rfl) dL_law_2227 ⟨(by show cells + 0 ≤ 601024; omega), (by show slots + 0 ≤ 7293034; omega)⟩ rfl (fun H locs X => ?_)
  have X := X.perm wL_swap.symm
  refine lv_goto (tgt := 2302) hx hb dL_law_2230 (by decide) ?_
  exact w_widen (Nat.le_add_right cells 1) (Nat.le_add_right slots 6) (kk P' G' M' O H locs ls hI X (lv_sub hl [0, 1, 2, 3, 4] rfl))
-- case 38
def OK_restoreSnapshot (Inv : RowsS → GlbS → RowS → Prop) (P : RowsS) (G : GlbS) (M : RowS) : Prop :=
  (∃ (n : Nat) (res : Bool) (P' : RowsS) (G' : GlbS) (n2 : Nat) (b : Bool) (M' : RowS), f_X7_restoreSnapshot n P G = some (res, P', G') ∧ f_X8_restoreSnapshot n2 M = some (b, M') ∧ res = b ∧ Inv P' G' M')
set_option maxRecDepth 100000 in
set_option maxHeartbeats 4000000 in
theorem k_restoreSnapshot {p : Program} {l : Launch} {e : Env} {s : State} {m : MethodId} {args : Array Value} {below : List Frame} {meth : Method} {c : Code} {Q : State → Prop} {D : va_G} {A : Nat → Prop} {ar : Nat → Nat → Nat} {ag : Nat → Nat} {ca : Nat → ClassId} {am : Nat → Nat} {ao b0 L : Nat} {xs : Nat → Int32} {I : Int32} {Inv : RowsS → GlbS → RowS → Prop} {cells slots : Nat} {z : ZG} (K : MC D ca p s m args meth c cL_law 9 RL) (hl0 : l.stackTraces = false) (hA : ∀ q, s.heap.size ≤ q → A q) (hZ : ZF z A s s.heap) (hS : va_X b0 L xs s s.heap ∧ b0 < s.heap.size ∧ ¬ A b0) (hroom : cells + 1 ≤ 601024 ∧ slots + 6 ≤ 7293034) {P : RowsS} {G : GlbS} {M : RowS} {O : Nat → Int64} {H : Heap} {locs : List Loc} {ls : Array Slot} (hok : OK_restoreSnapshot Inv P G M) (X : RX D A (wL ar ag ca am P G M ao O) s.heap H locs) (hl : lv_has ls 9 [(0, .ref b0), (1, .ref (ag 0)), (2, .ref (am 0)), (3, .ref ao), (4, .int I)]) (kk : LwAt p l e s m args below meth c Q D A ar ag ca am ao b0 I Inv (cells + 1) (slots + 6) 2302) : W p l e room_1 s m args below meth c H locs cells slots Q (F0 m 2233 ls []) := by
  have hx := K.1
  have hb := K.2.1
  obtain ⟨n, res, P', G', n2, b, M', h7, h8, hv, hI⟩ := hok
  refine lv_aload_n hx hb dL_law_2233 rfl (lv_at hl 1 rfl) ?_
  have kx := m_X7_restoreSnapshot l D ca ar ag n P G (wM am ca M ++ [(ao, oc ca O)]) res P' G' h7 H.size
  refine x_callVw K hA X kx hl.1 0 q541 q542 q543 q87 q544 hv_X7_restoreSnapshot ⟨⟨(Nat.le_of_ble_eq_true rfl), (Nat.le_of_ble_eq_true rfl)⟩, rfl, rfl⟩ (pl_glb (k := 0) (by decide)) rfl rfl rfl rfl (Nat.le_of_ble_eq_true rfl) dL_law_2234 ⟨(by show cells + 0 ≤ 601024; omega), (by show slots + 0 ≤ 7293034; omega)⟩ rfl (fun H locs X => ?_)
  refine lv_aload_n hx hb dL_law_2237 rfl (lv_at hl 2 rfl) ?_
  have X := X.perm wL_swap
  have kx := m_X8_restoreSnapshot l D ca am n2 M (wC ar ag ca P' G' ++ [(ao, oc ca O)]) b M' h8 H.size
  refine x_callVw K hA X kx hl.1 0 q1893 q1894 q1895 q97 q1896 hv_X8_restoreSnapshot ⟨⟨(Nat.le_of_ble_eq_true rfl), (Nat.le_of_ble_eq_true rfl)⟩, rfl, rfl⟩ pl_modo rfl rfl rfl rfl (Nat.le_of_ble_eq_true rfl) dL_law_2238 ⟨(by show cells + 0 ≤ 601024; omega), (by show slots + 0 ≤ 7293034; omega)⟩ rfl (fun H locs X => ?_)
  have X := X.perm wL_swap.symm
  refine lv_icmp_eq (tgt := 2302) hx hb dL_law_2241 (by decide) (fun _ => ?_) (fun c1 => absurd (congrArg b2i hv) c1)
  exact w_widen (Nat.le_add_right cells 1) (Nat.le_add_right slots 6) (kk P' G' M' O H locs ls hI X (lv_sub hl [0, 1, 2, 3, 4] rfl))
-- case 39
def OK_query (Inv : RowsS → GlbS → RowS → Prop) (P : RowsS) (G : GlbS) (M : RowS) (a1 : Int32) : Prop :=
  (∃ (n : Nat) (res : Int32) (G' : GlbS) (n2 : Nat) (b : Int32) (M' : RowS), f_X7_query n P G a1 = some (res, G') ∧ f_X8_query n2 M a1 = some (b, M') ∧ f_X8_thrown M' = 0 ∧ res.toInt64 = b.toInt64 ∧ Inv P G' M') ∨
  (∃ (n2 : Nat) (b : Int32) (M' : RowS), t_X7_query P G a1 = some 2 ∧ f_X8_query n2 M a1 = some (b, M') ∧ f_X8_thrown M' = 1 ∧ Inv P G M')
set_option maxRecDepth 100000 in
set_option maxHeartbeats 4000000 in
theorem k_query {p : Program} {l : Launch} {e : Env} {s : State} {m : MethodId} {args : Array Value} {below : List Frame} {meth : Method} {c : Code} {Q : State → Prop} {D : va_G} {A : Nat → Prop} {ar : Nat → Nat → Nat} {ag : Nat → Nat} {ca : Nat → ClassId} {am : Nat → Nat} {ao b0 L : Nat} {xs : Nat → Int32} {I : Int32} {Inv : RowsS → GlbS → RowS → Prop} {cells slots : Nat} {z : ZG} (K : MC D ca p s m args meth c cL_law 9 RL) (hl0 : l.stackTraces = false) (hA : ∀ q, s.heap.size ≤ q → A q) (hZ : ZF z A s s.heap) (hS : va_X b0 L xs s s.heap ∧ b0 < s.heap.size ∧ ¬ A b0) (hroom : cells + 1 ≤ 601024 ∧ slots + 6 ≤ 7293034) {a1 : Int32} (h1 : vp_in (I + 1) L ∧ xs (I + 1).toNatClampNeg = a1) {P : RowsS} {G : GlbS} {M : RowS} {O : Nat → Int64} {H : Heap} {locs : List Loc} {ls : Array Slot} (hok : OK_query Inv P G M a1) (X : RX D A (wL ar ag ca am P G M ao O) s.heap H locs) (hl : lv_has ls 9 [(0, .ref b0), (1, .ref (ag 0)), (2, .ref (am 0)), (3, .ref ao), (4, .int I)]) (kk : LwAt p l e s m args below meth c Q D A ar ag ca am ao b0 I Inv (cells + 1) (slots + 6) 2302) : W p l e room_1 s m args below meth c H locs cells slots Q (F0 m 2246 ls []) := by
  have hx := K.1
  have hb := K.2.1
  unfold OK_query at hok
  rcases hok with hok | hok
  · skip
    obtain ⟨n, res, G', n2, b, M', h7, h8, hT, hv, hI⟩ := hok
    refine lv_aload_n hx hb dL_law_2246 rfl (lv_at hl 1 rfl) ?_
    refine lv_aload_n hx hb dL_law_2247 rfl (lv_at hl 0 rfl) ?_
    refine lv_iload hx hb dL_law_2248 (lv_at hl 4 rfl) ?_
    refine lv_iconst (v := 1) hx hb dL_law_2250 (by decide) ?_
    refine lv_iadd hx hb dL_law_2251 ?_
    refine x_sld K X hS h1 dL_law_2252 ?_
    refine lv_aload_n hx hb dL_law_2253 rfl (lv_at hl 3 rfl) ?_
    have kx := n_L_query l D ca ar ag z n P G (wM am ca M) ao O a1 res G' h7 H.size
    refine x_callSW K hA hZ X kx hl.1 3 q1288 q1289 q86 q1290 hs_L_query ⟨⟨(Nat.le_of_ble_eq_true rfl), (Nat.le_of_ble_eq_true rfl)⟩, rfl, rfl⟩ rfl rfl (Nat.le_of_ble_eq_true rfl) dL_law_2254 ⟨hroom.1, hroom.2⟩ rfl (fun H locs X => ?_)
    refine lv_istore (lv' := [(5, .int 0), (0, .ref b0), (1, .ref (ag 0)), (2, .ref (am 0)), (3, .ref ao), (4, .int I)]) hx hb dL_law_2257 hl (by decide) rfl (fun ls hl => ?_)
    refine lv_aload_n hx hb dL_law_2259 rfl (lv_at hl 3 rfl) ?_
    refine lv_aload_n hx hb dL_law_2260 rfl (lv_at hl 1 rfl) ?_
    refine lv_iload hx hb dL_law_2261 (lv_at hl 5 rfl) ?_
    refine lv_iconst (v := 1) hx hb dL_law_2263 (by decide) ?_
    refine lv_iadd hx hb dL_law_2264 ?_
    refine x_sld K X hS h1 dL_law_2265 ?_
    have X := X.perm wL_swap
    have kx := m_X8_query l D ca am n2 M (wC ar ag ca P G' ++ [(ao, oc ca (va_up O 0 res.toInt64))]) a1 b M' h8 H.size
    refine x_callVw K hA X kx hl.1 1 q1924 q1925 q1926 q97 q1927 hv_X8_query ⟨⟨(Nat.le_of_ble_eq_true rfl), (Nat.le_of_ble_eq_true rfl)⟩, rfl, rfl⟩ pl_modo rfl rfl rfl rfl (Nat.le_of_ble_eq_true rfl) dL_law_2266 ⟨(by show cells + 1 + 0 ≤ 601024; omega), (by show slots + 6 + 0 ≤ 7293034; omega)⟩ rfl (fun H locs X => ?_)
    have X := X.perm wL_swap.symm
    refine lv_istore (lv' := [(6, .int b), (5, .int 0), (0, .ref b0), (1, .ref (ag 0)), (2, .ref (am 0)), (3, .ref ao), (4, .int I)]) hx hb dL_law_2269 hl (by decide) rfl (fun ls hl => ?_)
    refine lv_aload_n hx hb dL_law_2271 rfl (lv_at hl 4 rfl) ?_
    have X := X.perm wL_swap
    have kx := m_X8_thrown l D ca am M' (wC ar ag ca P G' ++ [(ao, oc ca (va_up O 0 res.toInt64))]) 0 hT H.size
    refine x_callVw K hA X kx hl.1 0 q1380 q1381 q1382 q97 q1383 hv_X8_thrown ⟨⟨(Nat.le_of_ble_eq_true rfl), (Nat.le_of_ble_eq_true rfl)⟩, rfl, rfl⟩ pl_modo rfl rfl rfl rfl (Nat.le_of_ble_eq_true rfl) dL_law_2272 ⟨(by show cells + 1 + 0 ≤ 601024; omega), (by show slots + 6 + 0 ≤ 7293034; omega)⟩ rfl (fun H locs X => ?_)
    have X := X.perm wL_swap.symm
    refine lv_iload hx hb dL_law_2275 (lv_at hl 1 rfl) ?_
    refine lv_icmp_eq (tgt := 2282) hx hb dL_law_2277 (by decide) (fun _ => ?_) (fun c1 => absurd rfl c1)
    refine lv_iload hx hb dL_law_2282 (lv_at hl 1 rfl) ?_
    refine lv_if_ne (tgt := 2299) hx hb dL_law_2284 (by decide) (fun c1 => absurd rfl c1) (fun _ => ?_)
    refine lv_aload_n hx hb dL_law_2287 rfl (lv_at hl 5 rfl) ?_
    refine lv_iconst (v := 0) hx hb dL_law_2288 (by decide) ?_
    refine x_lald K X (241 + (wM am ca M').length) ctor_atw (vp_in_iff.mpr (by decide)) dL_law_2289 ?_
    refine lv_iload hx hb dL_law_2290 (lv_at hl 0 rfl) ?_
    refine lv_i2l hx hb dL_law_2292 rfl ?_
    refine w_beq (tgt := 2299) K dL_law_2293 dL_law_2294 (by decide) (fun _ => ?_) (fun c1 => absurd (by rw [show (0 : Int32).toNatClampNeg = 0 from rfl, va_up_self]; exact hv) c1)
    refine lv_goto (tgt := 2302) hx hb dL_law_2299 (by decide) ?_
    exact kk P G' M' (va_up O 0 res.toInt64) H locs ls hI X (lv_sub hl [2, 3, 4, 5, 6] rfl)
  · skip
    obtain ⟨n2, b, M', ht, h8, hT, hI⟩ := hok
    refine lv_aload_n hx hb dL_law_2246 rfl (lv_at hl 1 rfl) ?_
    refine lv_aload_n hx hb dL_law_2247 rfl (lv_at hl 0 rfl) ?_
    refine lv_iload hx hb dL_law_2248 (lv_at hl 4 rfl) ?_
    refine lv_iconst (v := 1) hx hb dL_law_2250 (by decide) ?_
    refine lv_iadd hx hb dL_law_2251 ?_
    refine x_sld K X hS h1 dL_law_2252 ?_
    refine lv_aload_n hx hb dL_law_2253 rfl (lv_at hl 3 rfl) ?_
    have kx := e2_L_query l D ca ar ag z hl0 P G (wM am ca M) ao O a1 ht H.size
    refine x_callSW K hA hZ X kx hl.1 3 q1288 q1289 q86 q1290 hs_L_query ⟨⟨(Nat.le_of_ble_eq_true rfl), (Nat.le_of_ble_eq_true rfl)⟩, rfl, rfl⟩ rfl rfl (Nat.le_of_ble_eq_true rfl) dL_law_2254 ⟨hroom.1, hroom.2⟩ rfl (fun H locs X => ?_)
    refine lv_istore (lv' := [(5, .int 1), (0, .ref b0), (1, .ref (ag 0)), (2, .ref (am 0)), (3, .ref ao), (4, .int I)]) hx hb dL_law_2257 hl (by decide) rfl (fun ls hl => ?_)
    refine lv_aload_n hx hb dL_law_2259 rfl (lv_at hl 3 rfl) ?_
    refine lv_aload_n hx hb dL_law_2260 rfl (lv_at hl 1 rfl) ?_
    refine lv_iload hx hb dL_law_2261 (lv_at hl 5 rfl) ?_
    refine lv_iconst (v := 1) hx hb dL_law_2263 (by decide) ?_
    refine lv_iadd hx hb dL_law_2264 ?_
    refine x_sld K X hS h1 dL_law_2265 ?_
    have X := X.perm wL_swap
    have kx := m_X8_query l D ca am n2 M (wC ar ag ca P G ++ [(ao, oc ca O)]) a1 b M' h8 H.size
    refine x_callVw K hA X kx hl.1 1 q1924 q1925 q1926 q97 q1927 hv_X8_query ⟨⟨(Nat.le_of_ble_eq_true rfl), (Nat.le_of_ble_eq_true rfl)⟩, rfl, rfl⟩ pl_modo rfl rfl rfl rfl (Nat.le_of_ble_eq_true rfl) dL_law_2266 ⟨(by show cells + 1 + 0 ≤ 601024; omega), (by show slots + 6 + 0 ≤ 7293034; omega)⟩ rfl (fun H locs X => ?_)
    have X := X.perm wL_swap.symm
    refine lv_istore (lv' := [(6, .int b), (5, .int 1), (0, .ref b0), (1, .ref (ag 0)), (2, .ref (am 0)), (3, .ref ao), (4, .int I)]) hx hb dL_law_2269 hl (by decide) rfl (fun ls hl => ?_)
    refine lv_aload_n hx hb dL_law_2271 rfl (lv_at hl 4 rfl) ?_
    have X := X.perm wL_swap
    have kx := m_X8_thrown l D ca am M' (wC ar ag ca P G ++ [(ao, oc ca O)]) 1 hT H.size
    refine x_callVw K hA X kx hl.1 0 q1380 q1381 q1382 q97 q1383 hv_X8_thrown ⟨⟨(Nat.le_of_ble_eq_true rfl), (Nat.le_of_ble_eq_true rfl)⟩, rfl, rfl⟩ pl_modo rfl rfl rfl rfl (Nat.le_of_ble_eq_true rfl) dL_law_2272 ⟨(by show cells + 1 + 0 ≤ 601024; omega), (by show slots + 6 + 0 ≤ 7293034; omega)⟩ rfl (fun H locs X => ?_)
    have X := X.perm wL_swap.symm
    refine lv_iload hx hb dL_law_2275 (lv_at hl 1 rfl) ?_
    refine lv_icmp_eq (tgt := 2282) hx hb dL_law_2277 (by decide) (fun _ => ?_) (fun c1 => absurd rfl c1)
    refine lv_iload hx hb dL_law_2282 (lv_at hl 1 rfl) ?_
    refine lv_if_ne (tgt := 2299) hx hb dL_law_2284 (by decide) (fun _ => ?_) (fun c1 => absurd c1 (by decide))
    refine lv_goto (tgt := 2302) hx hb dL_law_2299 (by decide) ?_
    exact kk P G M' O H locs ls hI X (lv_sub hl [2, 3, 4, 5, 6] rfl)
