/-! THR: methods that throw -/
def eX (k : Nat) : String := if k = 1 then eN else eI
abbrev xnames : List String := ["java/lang/RuntimeException", "java/lang/Exception"]
theorem xat_N : ∀ w ∈ vx_atS RX7 118 eN xnames, w = Cond.castable eN eN ∨ w ∈ lw_all := by decide +kernel
theorem xat_I : ∀ w ∈ vx_atS RX7 314 eI xnames, w = Cond.castable eI eI ∨ w ∈ lw_all := by decide +kernel
theorem xot_N : ∀ w ∈ Cond.classLink RX7 114 eN :: Cond.initialized eN :: vx_atS RX7 118 eN xnames, vx_ot w = true := by decide +kernel
theorem xot_I : ∀ w ∈ Cond.classLink RX7 310 eI :: Cond.initialized eI :: vx_atS RX7 314 eI xnames, vx_ot w = true := by decide +kernel
theorem xnm_fit : ∀ n ∈ xnames, Bundle.fit n = true := by decide +kernel
theorem xe_fit : Bundle.fit eN = true ∧ Bundle.fit eI = true := by decide +kernel
def XCw (D : va_G) (ws : va_W) (sz : Nat) (E0 : String) : String → State → State → Prop := fun E st t => E = E0 ∧ va_P D vwCl ws t.heap ∧ va_F (AL ws sz) st t
abbrev QNo : Array Value → State → Outcome → State → Prop := fun _ _ _ _ => False
theorem met_x {l : Launch} {y : MethodName} {cc : ByteArray} {nL : Nat} {ret : Option FieldType} {rm : Room} {z : ZG} {D : va_G} {ca : Nat → ClassId} {ws : va_W} {sz : Nat} {av : List Value} {E : String} (hy : plainName y.cls = true) (hav : (lg_sl av).length ≤ nL)
    (body : ∀ (p : Program) (e : Env) (s : State) (m : MethodId) (args : Array Value) (below : List Frame) (meth : Method) (c : Code), MC D ca p s m args meth c cc nL y.cls → (∀ x ∈ c.exceptionTable.toList, False) → ZF z (AL ws s.heap.size) s s.heap → RW D ws s.heap s.heap [] → s.heap.size = sz → ∀ ls : Array Slot, lv_has ls nL (lv_args 0 av) →
      W p l e rm s m args below meth c s.heap [] 0 0 (vx_MQ below QNo (XCw D ws sz E) args s 1 6 (AL ws sz)) (F0 m 0 ls [])) : vx_Met l y (ws_ y cc nL ret) rm (PCz z D ca ws sz av) QNo (XCw D ws sz E) 1 6 (AL ws sz) := by
  refine vx_ofW (cc := cc) (maxL := nL) (ret := ret) hy rfl ?_
  intro p e s m args below meth c s₁ B hml hex hv
  obtain ⟨⟨rfl, hsz, hP, hK, hD0⟩, hZ⟩ := hv
  have hts := atoms_spec (ws := ws_ y cc nL ret) B.pre
  have hD : va_D (AL ws s.heap.size) ws := hD0.weaken (fun k q hk _ => Or.inl (List.mem_map.mpr ⟨q, List.mem_of_getElem? hk, rfl⟩))
  have hl := lv_entry av (n := nL) hav
  rw [lg_entry_eq]
  exact body p e s m _ below meth c ⟨B.exec, B.bytes, hml, findClass_of_methodNamed B.named, fun w h => hts w (List.mem_cons_of_mem _ h), hK, B.notSynchronized⟩ hex (by rw [hsz]; exact hZ) ⟨hP, hD, va_S.rf⟩ hsz _ hl
section THR
variable {p : Program} {l : Launch} {e : Env} {Rm : Room} {s : State} {m : MethodId} {args : Array Value} {below : List Frame} {meth : Method} {c : Code} {H : Heap} {locs : List Loc}
variable {cc : ByteArray} {nL : Nat} {own : String} {z : ZG} {D : va_G} {ca : Nat → ClassId} {ws ws0 : va_W} {pc : Nat} {ls : Array Slot} {rest : List Value} {idx sz : Nat}
theorem z_xhx {cls : String} (X : RW D ws s.heap H locs) (hsz : s.heap.size = sz) : ∀ t : State, s.vm.Alike t.vm → H.size ≤ t.heap.size → (∀ q : Nat, q < H.size → t.heap[q]? = H[q]?) → XCw D ws sz cls cls s t := fun t _ h1 h2 => by
  subst hsz
  exact ⟨rfl, X.1.kept (fun k x hx => h2 x.1 ((X.1 k x hx).lt)), Nat.le_trans X.2.2.1 h1, fun q hq hA => (h2 q (Nat.lt_of_lt_of_le hq X.2.2.1)).trans (X.2.2.2.1 q hq hA)⟩
theorem z_xfr (X : RW D ws s.heap H locs) (hsz : s.heap.size = sz) : ∀ q ∈ locs, AL ws sz q.base := by
  subst hsz; exact X.2.2.2.2
theorem z_throw {cls : String} {ik is ic : Nat} (M : MC D ca p s m args meth c cc nL own) (hex : ∀ x ∈ c.exceptionTable.toList, False) (hl0 : l.stackTraces = false) (hZ : ZF z (AL ws s.heap.size) s s.heap) (X : RW D ws s.heap H locs) (hsz : s.heap.size = sz) (hls : ls.size = nL) (i : Nat) (hi : i < 33) (ho : zO i = own ∧ zK i = is) (hfit : Bundle.fit cls = true) (hE : cls ∈ zE) (hk : Cond.classLink own ik cls ∈ lw_all) (hini : Cond.initialized cls ∈ lw_all) (hat : ∀ w ∈ vx_atS own ic cls xnames, w = Cond.castable cls cls ∨ w ∈ lw_all) (hot : ∀ w ∈ Cond.classLink own ik cls :: Cond.initialized cls :: vx_atS own ic cls xnames, vx_ot w = true)
    (d0 : decode cc pc = .ok (.new ik, 3)) (d3 : decode cc (pc + 3) = .ok (.dup, 1)) (d4 : decode cc (pc + 4) = .ok (.ldc is, 2)) (d6 : decode cc (pc + 6) = .ok (.invokespecial ic, 3)) (d9 : decode cc (pc + 9) = .ok (.athrow, 1)) (hR : 5 < Rm.frames ∧ 82 ≤ Rm.locals ∧ 1 ≤ Rm.cells ∧ 6 ≤ Rm.slots) : W p l e Rm s m args below meth c H locs 0 0 (vx_MQ below QNo (XCw D ws sz cls) args s 1 6 (AL ws sz)) (F0 m pc ls []) := by
  have M' := M
  obtain ⟨hx, hb, hml, hown, hts, hK, hlk⟩ := M'
  have hs := hZ.2.1 i hi
  rw [ho.1, ho.2] at hs
  refine vx_throwS (sa := z.1 i) (A := AL ws s.heap.size) hx hb hl0 hown hfit xnm_fit (hts _ hk) (hts _ hini) hs (fun w hw => ?_) hot hZ.2.2.2.2.1 hZ.2.2.2.2.2.1 X.2.2 (hls.trans hml.symm) d0 d3 d4 d6 d9 (fun x hx => (hex x hx).elim) hR.1 hR.2.1 hR.2.2.1 hR.2.2.2 hlk (z_xhx X hsz) (z_xfr X hsz) (Nat.le_refl _) (Nat.le_refl _)
  rcases hat w hw with h | h
  · subst h; exact va_Nw.use rfl (hZ.2.2.2.2.2.2.2.2.2.1 _ hE)
  · exact hts _ h
theorem z_throwW {cls : String} {ik is ic : Nat} (M : MC D ca p s m args meth c cc nL own) (hex : ∀ x ∈ c.exceptionTable.toList, False) (hl0 : l.stackTraces = false) (hZ : ZF z (AL ws s.heap.size) s s.heap) (X : RW D ws s.heap H locs) (hsz : s.heap.size = sz) (hls : ls.size = nL) (i : Nat) (hi : i < 33) (ho : zO i = own ∧ zK i = is) (hfit : Bundle.fit cls = true) (hE : cls ∈ zE) (hk : Cond.classLink own ik cls ∈ lw_all) (hini : Cond.initialized cls ∈ lw_all) (hat : ∀ w ∈ vx_atS own ic cls xnames, w = Cond.castable cls cls ∨ w ∈ lw_all) (hot : ∀ w ∈ Cond.classLink own ik cls :: Cond.initialized cls :: vx_atS own ic cls xnames, vx_ot w = true)
    (d0 : decode cc pc = .ok (.new ik, 3)) (d3 : decode cc (pc + 3) = .ok (.dup, 1)) (d4 : decode cc (pc + 4) = .ok (.ldc_w is, 3)) (d7 : decode cc (pc + 7) = .ok (.invokespecial ic, 3)) (d10 : decode cc (pc + 10) = .ok (.athrow, 1)) (hR : 5 < Rm.frames ∧ 82 ≤ Rm.locals ∧ 1 ≤ Rm.cells ∧ 6 ≤ Rm.slots) : W p l e Rm s m args below meth c H locs 0 0 (vx_MQ below QNo (XCw D ws sz cls) args s 1 6 (AL ws sz)) (F0 m pc ls []) := by
  have M' := M
  obtain ⟨hx, hb, hml, hown, hts, hK, hlk⟩ := M'
  have hs := hZ.2.1 i hi
  rw [ho.1, ho.2] at hs
  refine vx_throwSW (sa := z.1 i) (A := AL ws s.heap.size) hx hb hl0 hown hfit xnm_fit (hts _ hk) (hts _ hini) hs (fun w hw => ?_) hot hZ.2.2.2.2.1 hZ.2.2.2.2.2.1 X.2.2 (hls.trans hml.symm) d0 d3 d4 d7 d10 (fun x hx => (hex x hx).elim) hR.1 hR.2.1 hR.2.2.1 hR.2.2.2 hlk (z_xhx X hsz) (z_xfr X hsz) (Nat.le_refl _) (Nat.le_refl _)
  rcases hat w hw with h | h
  · subst h; exact va_Nw.use rfl (hZ.2.2.2.2.2.2.2.2.2.1 _ hE)
  · exact hts _ h
theorem z_xout {E : String} {st0 : List Value} (M : MC D ca p s m args meth c cc nL own) (hex : ∀ x ∈ c.exceptionTable.toList, False) (X : RW D ws s.heap H locs) (hsz : s.heap.size = sz) (hr : vx_Run p l e Rm s m args below meth c H locs 0 0 1 6 (F0 m pc ls st0) rest (fun _ _ _ => False) (XCw D ws H.size E) (AL ws H.size)) :
    W p l e Rm s m args below meth c H locs 0 0 (vx_MQ below QNo (XCw D ws sz E) args s 1 6 (AL ws sz)) (F0 m pc ls st0) := by
  obtain ⟨hx, hb, hml, hown, hts, hK, hlk⟩ := M
  subst hsz
  intro T hT X0
  rcases hr T hT X0 with ⟨v, st₀, t, T', L, h0, X', hL, e1, e2, hf, st⟩ | ⟨q, st₀, t, T', L, E', ce, h0, X', hL, e1, e2, ⟨rfl, hP, hF⟩, hce, hcv, hcl, st⟩
  · exact hf.elim
  · have hsub : ∀ q, AL ws H.size q → AL ws s.heap.size q := fun q h => h.elim Or.inl (fun h => Or.inr (Nat.le_trans X.2.2.1 h))
    rw [va_F, h0] at hF
    obtain ⟨t2, a1, b1⟩ := vx_out (p := p) (l := l) (e := e) (R := Rm) (s := s) (m := m) (args := args) (below := below) (meth := meth) (c := c) (H := T'.heap) (locs := locs ++ L) (cells := 0 + 1) (slots := 0 + 6) (mc := 1) (ms := 6) (Qc := QNo) (XC := XCw D ws s.heap.size E') (free := AL ws s.heap.size) (ls := ls) (rest := rest) (pc := pc) (E := E') (ce := ce) (q := q) (fun x hx => (hex x hx).elim) hlk (by rw [e1]; exact hce) hcv hcl
      (fun u hu _ => ⟨rfl, by rw [hu, e1]; exact hP, by rw [hu, e1]; exact Nat.le_trans X.2.2.1 hF.1, fun q hq hA => by rw [hu, e1, hF.2 q (Nat.lt_of_lt_of_le hq X.2.2.1) (fun z => hA (hsub q z))]; exact X.2.2.2.1 q hq hA⟩)
      (fun q hq => by
        rcases List.mem_append.mp hq with h | h
        · exact X.2.2.2.2 q h
        · exact hsub _ (hL q h)) (Nat.le_refl _) (Nat.le_refl _) T' rfl X'
    exact ⟨t2, st.trans a1, b1⟩
theorem z_xcallV {y : MethodName} {cc' : ByteArray} {nL' b : Nat} {ret' : Option FieldType} {rm' : Room} {C E : String} {As st : List Value} (M : MC D ca p s m args meth c cc nL own) (hex : ∀ x ∈ c.exceptionTable.toList, False) (hZ : ZF z (AL ws0 s.heap.size) s s.heap) (X : RW D ws s.heap H locs) (hf0 : ws.map Prod.fst = ws0.map Prod.fst) (hsz0 : s.heap.size = sz)
    (hM : vx_Met l y (ws_ y cc' nL' ret') rm' (PCz z D ca ws H.size (.ref b :: As)) QNo (XCw D ws H.size E) 1 6 (AL ws H.size)) (hsz : ls.size = nL) (n : Nat) (q1 : Cond.methodLink own idx y ∈ lw_all) (q2 : Cond.instanceMethod y ∈ lw_all) (q3 : Cond.selects C y y ∈ lw_all) (q4 : Cond.initialized C ∈ lw_all) (q5 : Cond.code y cc' nL' ret' ∈ lw_all)
    (hd : y.cls = C ∧ y.cls ≠ "java/lang/invoke/MethodHandle" ∧ y.cls ≠ "java/lang/invoke/VarHandle" ∧ (parseMethodDescriptor y.desc).map (fun d => d.parameters.length) = some n) (hR : (rm'.frames + 1 ≤ Rm.frames ∧ 8 + (nL' + 11) + rm'.locals ≤ Rm.locals) ∧ (rm'.cells = 1 ∧ rm'.slots = 6))
    (hrecv : (∃ cell : Cell, H[b]? = some cell ∧ cell.vm.isStatics = false ∧ s.vm.findClass C = some cell.cls)) (hn : As.length = n) (hst0 : st = As.reverse ++ .ref b :: rest) (hcat : (rest.map fun v => v.category).sum ≤ 8) (hdg : decode cc pc = .ok (.invokevirtual idx, 3)) (hf : 1 ≤ Rm.cells ∧ 6 ≤ Rm.slots) : W p l e Rm s m args below meth c H locs 0 0 (vx_MQ below QNo (XCw D ws sz E) args s 1 6 (AL ws sz)) (F0 m pc ls st) := by
  have M' := M
  obtain ⟨hx, hb, hml, hown, hts, hK, -⟩ := M'
  subst hst0
  have hG : GoodIn lw_all (wsV own idx C y (ws_ y cc' nL' ret')) := good_in (fun w hw => by
    rcases List.mem_append.mp hw with h | h
    · simp only [List.mem_cons, List.not_mem_nil, or_false] at h
      rcases h with rfl | rfl | rfl | rfl
      · exact q1
      · exact q2
      · exact q3
      · exact q4
    · exact good_ws q5 w h)
  exact z_xout M hex X hsz0 (vx_runV (As := As) (rest := rest) ⟨hx, hb, hml, hown, hts⟩ hM (cwV n hts hG rfl hR.2.1 hR.2.2 hd hR.1) ⟨PCz_blind, hrecv, z_pre M hZ X hf0⟩ rfl hn hsz rfl (lv_room hcat) hdg (by rw [Nat.zero_add, Nat.zero_add]; exact hf))
theorem z_xcallS {y : MethodName} {cc' : ByteArray} {nL' : Nat} {ret' : Option FieldType} {rm' : Room} {E : String} {As st : List Value} (M : MC D ca p s m args meth c cc nL own) (hex : ∀ x ∈ c.exceptionTable.toList, False) (hZ : ZF z (AL ws0 s.heap.size) s s.heap) (X : RW D ws s.heap H locs) (hf0 : ws.map Prod.fst = ws0.map Prod.fst) (hsz0 : s.heap.size = sz)
    (hM : vx_Met l y (ws_ y cc' nL' ret') rm' (PCz z D ca ws H.size As) QNo (XCw D ws H.size E) 1 6 (AL ws H.size)) (hsz : ls.size = nL) (n : Nat) (q1 : Cond.methodLink own idx y ∈ lw_all) (q2 : Cond.static y ∈ lw_all) (q4 : Cond.initialized y.cls ∈ lw_all) (q5 : Cond.code y cc' nL' ret' ∈ lw_all)
    (hd : y.cls ≠ "java/lang/invoke/MethodHandle" ∧ y.cls ≠ "java/lang/invoke/VarHandle" ∧ (parseMethodDescriptor y.desc).map (fun d => d.parameters.length) = some n) (hR : (rm'.frames + 1 ≤ Rm.frames ∧ 8 + (nL' + 11) + rm'.locals ≤ Rm.locals) ∧ (rm'.cells = 1 ∧ rm'.slots = 6))
    (hn : As.length = n) (hst0 : st = As.reverse ++ rest) (hcat : (rest.map fun v => v.category).sum ≤ 8) (hdg : decode cc pc = .ok (.invokestatic idx, 3)) (hf : 1 ≤ Rm.cells ∧ 6 ≤ Rm.slots) : W p l e Rm s m args below meth c H locs 0 0 (vx_MQ below QNo (XCw D ws sz E) args s 1 6 (AL ws sz)) (F0 m pc ls st) := by
  have M' := M
  obtain ⟨hx, hb, hml, hown, hts, hK, -⟩ := M'
  subst hst0
  have hG : GoodIn lw_all (va_wsS own idx y (ws_ y cc' nL' ret')) := good_in (fun w hw => by
    rcases List.mem_append.mp hw with h | h
    · simp only [List.mem_cons, List.not_mem_nil, or_false] at h
      rcases h with rfl | rfl | rfl
      · exact q1
      · exact q2
      · exact q4
    · exact good_ws q5 w h)
  exact z_xout M hex X hsz0 (vx_runS (As := As) (rest := rest) ⟨hx, hb, hml, hown, hts⟩ hM (va_cwS n hts hG rfl hR.2.1 hR.2.2 hd hR.1) ⟨PCz_blind, z_pre M hZ X hf0⟩ rfl hn hsz rfl (lv_room hcat) hdg (by rw [Nat.zero_add, Nat.zero_add]; exact hf))
end THR
