/-! WRAP: methods with handlers, and their calls -/
abbrev oc (ca : Nat → ClassId) (O : Nat → Int64) : va_E := .inl (ca 2, 1, .inr (.inl O))
theorem xs_fst {ar : Nat → Nat → Nat} {ag : Nat → Nat} {ca : Nat → ClassId} {P P' : RowsS} {G G' : GlbS} {ys : va_W} {a : Nat} {e e' : va_E} : (wC ar ag ca P G ++ (ys ++ ([(a, e)] : va_W))).map Prod.fst = (wC ar ag ca P' G' ++ (ys ++ ([(a, e')] : va_W))).map Prod.fst := by
  rw [List.map_append, List.map_append, wC_fst (P := P) (P' := P') (G := G) (G' := G')]; simp only [List.map_append, List.map_cons, List.map_nil]
theorem met_h {l : Launch} {y : MethodName} {cc : ByteArray} {nL : Nat} {ret : Option FieldType} {rm : Room} {z : ZG} {D : va_G} {ca : Nat → ClassId} {ws ws' : va_W} {sz : Nat} {av : List Value} {v : Option Value} {hh : List (Nat × Nat × Nat × Nat)} (hy : plainName y.cls = true) (hav : (lg_sl av).length ≤ nL)
    (body : ∀ (p : Program) (e : Env) (s : State) (m : MethodId) (args : Array Value) (below : List Frame) (meth : Method) (c : Code), MC D ca p s m args meth c cc nL y.cls → c.exceptionTable.toList = tableOf hh → meth.sig.returnType = ret → ZF z (AL ws s.heap.size) s s.heap → RW D ws s.heap s.heap [] → s.heap.size = sz → ∀ ls : Array Slot, lv_has ls nL (lv_args 0 av) →
      W p l e rm s m args below meth c s.heap [] 0 0 (MQ below (QMw D ws ws' sz v) args s 1 6 (AL ws sz)) (F0 m 0 ls [])) : Met l y (Cond.codeWith y cc nL ret hh :: lw_all) rm (PCz z D ca ws sz av) (QMw D ws ws' sz v) 1 6 (AL ws sz) := by
  refine MetFree.of_bodyS (code := cc) (maxLocals := nL) (ret := ret) hy ?_ ?_
  · intro args s m h hn
    obtain ⟨m9, meth, c, hn9, h1, h2, h3, h4, -, h5, h6, -⟩ := Cond.codeWith_spec (atoms_spec (ws := Cond.codeWith y cc nL ret hh :: lw_all) h _ List.mem_cons_self)
    cases hn.symm.trans hn9
    exact ⟨meth, c, h1, h2, h3, h4, h5, h6⟩
  · intro p e s m args below meth c s₁ B hml hv _
    have hh0 : s₁.heap = s.heap := by rw [B.state]; rfl
    have htab := vx_table (x := y) B (atoms_spec (ws := Cond.codeWith y cc nL ret hh :: lw_all) B.pre _ List.mem_cons_self)
    obtain ⟨⟨rfl, hsz, hP, hK, hD0⟩, hZ⟩ := hv
    have hts := atoms_spec (ws := Cond.codeWith y cc nL ret hh :: lw_all) B.pre
    have hD : va_D (AL ws s.heap.size) ws := hD0.weaken (fun k q hk _ => Or.inl (List.mem_map.mpr ⟨q, List.mem_of_getElem? hk, rfl⟩))
    have hl := lv_entry av (n := nL) hav
    have key : W p l e rm s m av.toArray below meth c s.heap [] 0 0 (MQ below (QMw D ws ws' sz v) av.toArray s 1 6 (AL ws sz)) (entryFrame m av.toArray nL) := by
      rw [lg_entry_eq]
      exact body p e s m _ below meth c ⟨B.exec, B.bytes, hml, findClass_of_methodNamed B.named, fun w h => hts w (List.mem_cons_of_mem _ h), hK, B.notSynchronized⟩ htab B.returns (by rw [hsz]; exact hZ) ⟨hP, hD, va_S.rf⟩ hsz _ hl
    obtain ⟨t, a1, o, b1, b2, b3⟩ := key s₁ hh0 (Stand.of_body B)
    exact ⟨t, o, a1, b1, b2, ⟨b3.1, b3.2⟩⟩
section WRAP
variable {p : Program} {l : Launch} {e : Env} {Rm : Room} {s : State} {m : MethodId} {args : Array Value} {below : List Frame} {meth : Method} {c : Code} {H0 H : Heap} {locs : List Loc} {cells slots : Nat} {Q : State → Prop}
variable {cc : ByteArray} {nL : Nat} {own : String} {z : ZG} {D : va_G} {ca : Nat → ClassId} {ws ws0 ws2 : va_W} {pc : Nat} {ls : Array Slot} {rest : List Value} {idx sz : Nat}
theorem w_widen {k n : Nat} {g : JFrame} (h1 : cells ≤ k) (h2 : slots ≤ n) (kk : W p l e Rm s m args below meth c H locs k n Q g) : W p l e Rm s m args below meth c H locs cells slots Q g := fun T hT X => kk T hT (stand_widen X h1 h2)
theorem z_callVg {y : MethodName} {cc' : ByteArray} {nL' b mc ms : Nat} {ret' : Option FieldType} {rm' : Room} {C : String} {v : Option Value} {As st st' : List Value} (M : MC D ca p s m args meth c cc nL own) (hZ : ZF z (AL ws0 s.heap.size) s s.heap) (X : RW D ws s.heap H locs) (hf0 : ws.map Prod.fst = ws0.map Prod.fst) (hfst : ws2.map Prod.fst = ws.map Prod.fst)
    (hM : Met l y (ws_ y cc' nL' ret') rm' (PCz z D ca ws H.size (.ref b :: As)) (QMw D ws ws2 H.size v) mc ms (AL ws H.size)) (hsz : ls.size = nL) (n : Nat) (q1 : Cond.methodLink own idx y ∈ lw_all) (q2 : Cond.instanceMethod y ∈ lw_all) (q3 : Cond.selects C y y ∈ lw_all) (q4 : Cond.initialized C ∈ lw_all) (q5 : Cond.code y cc' nL' ret' ∈ lw_all)
    (hd : y.cls = C ∧ y.cls ≠ "java/lang/invoke/MethodHandle" ∧ y.cls ≠ "java/lang/invoke/VarHandle" ∧ (parseMethodDescriptor y.desc).map (fun d => d.parameters.length) = some n) (hR : (rm'.frames + 1 ≤ Rm.frames ∧ 8 + (nL' + 11) + rm'.locals ≤ Rm.locals) ∧ (rm'.cells = mc ∧ rm'.slots = ms))
    (hrecv : (∃ cell : Cell, H[b]? = some cell ∧ cell.vm.isStatics = false ∧ s.vm.findClass C = some cell.cls)) (hn : As.length = n) (hst0 : st = As.reverse ++ .ref b :: rest) (hcat : (rest.map fun v => v.category).sum ≤ 8) (hdg : decode cc pc = .ok (.invokevirtual idx, 3)) (hf : cells + mc ≤ Rm.cells ∧ slots + ms ≤ Rm.slots) (hst : v.toList ++ rest = st')
    (kk : ∀ (H1 : Heap) (locs1 : List Loc), RW D ws2 s.heap H1 locs1 → W p l e Rm s m args below meth c H1 locs1 (cells + mc) (slots + ms) Q (F0 m (pc + 3) ls st')) : W p l e Rm s m args below meth c H locs cells slots Q (F0 m pc ls st) := by
  have M' := M
  obtain ⟨hx, hb, hml, hown, hts, hK, -⟩ := M'
  subst hst0
  have hG : GoodIn lw_all (wsV own idx C y (ws_ y cc' nL' ret')) := good_in (fun w hw => by
    rcases List.mem_append.mp hw with h | h
    · simp only [List.mem_cons, List.not_mem_nil, or_false] at h
      rcases h with rfl | rfl | rfl | rfl
      · exact q1
      · exact q2
      · exact q3
      · exact q4
    · exact good_ws q5 w h)
  exact w_run X hfst (va_runV (As := As) (rest := rest) ⟨hx, hb, hml, hown, hts⟩ hM (cwV n hts hG rfl hR.2.1 hR.2.2 hd hR.1) ⟨PCz_blind, hrecv, z_pre M hZ X hf0⟩ rfl hn hsz rfl (lv_room hcat) hdg hf) hst kk
theorem z_callSW {y : MethodName} {cc' : ByteArray} {nL' mc ms : Nat} {ret' : Option FieldType} {rm' : Room} {hh : List (Nat × Nat × Nat × Nat)} {v : Option Value} {As st st' : List Value} (M : MC D ca p s m args meth c cc nL own) (hZ : ZF z (AL ws0 s.heap.size) s s.heap) (X : RW D ws s.heap H locs) (hf0 : ws.map Prod.fst = ws0.map Prod.fst) (hfst : ws2.map Prod.fst = ws.map Prod.fst)
    (hM : Met l y (Cond.codeWith y cc' nL' ret' hh :: lw_all) rm' (PCz z D ca ws H.size As) (QMw D ws ws2 H.size v) mc ms (AL ws H.size)) (hsz : ls.size = nL) (n : Nat) (q1 : Cond.methodLink own idx y ∈ lw_all) (q2 : Cond.static y ∈ lw_all) (q4 : Cond.initialized y.cls ∈ lw_all) (q5 : Cond.codeWith y cc' nL' ret' hh ∈ lw_all)
    (hd : y.cls ≠ "java/lang/invoke/MethodHandle" ∧ y.cls ≠ "java/lang/invoke/VarHandle" ∧ (parseMethodDescriptor y.desc).map (fun d => d.parameters.length) = some n) (hR : (rm'.frames + 1 ≤ Rm.frames ∧ 8 + (nL' + 11) + rm'.locals ≤ Rm.locals) ∧ (rm'.cells = mc ∧ rm'.slots = ms))
    (hn : As.length = n) (hst0 : st = As.reverse ++ rest) (hcat : (rest.map fun v => v.category).sum ≤ 8) (hdg : decode cc pc = .ok (.invokestatic idx, 3)) (hf : cells + mc ≤ Rm.cells ∧ slots + ms ≤ Rm.slots) (hst : v.toList ++ rest = st')
    (kk : ∀ (H1 : Heap) (locs1 : List Loc), RW D ws2 s.heap H1 locs1 → W p l e Rm s m args below meth c H1 locs1 (cells + mc) (slots + ms) Q (F0 m (pc + 3) ls st')) : W p l e Rm s m args below meth c H locs cells slots Q (F0 m pc ls st) := by
  have M' := M
  obtain ⟨hx, hb, hml, hown, hts, hK, -⟩ := M'
  subst hst0
  have hG : GoodIn lw_all (va_wsS own idx y (Cond.codeWith y cc' nL' ret' hh :: lw_all)) := good_in (fun w hw => by
    rcases List.mem_append.mp hw with h | h
    · simp only [List.mem_cons, List.not_mem_nil, or_false] at h
      rcases h with rfl | rfl | rfl
      · exact q1
      · exact q2
      · exact q4
    · exact (List.mem_cons.mp h).elim (fun q => q ▸ q5) id)
  exact w_run X hfst (vx_runSW (As := As) (rest := rest) ⟨hx, hb, hml, hown, hts⟩ hM (vx_cwSW n hts hG rfl hR.2.1 hR.2.2 hd hR.1) ⟨PCz_blind, z_pre M hZ X hf0⟩ rfl hn hsz rfl (lv_room hcat) hdg hf) hst kk
theorem z_xcatch {E : String} {st0 : List Value} (M : MC D ca p s m args meth c cc nL own) (X : RW D ws s.heap H locs) (hr : vx_Run p l e Rm s m args below meth c H locs 0 0 1 6 (F0 m pc ls st0) rest (fun _ _ _ => False) (XCw D ws H.size E) (AL ws H.size))
    (pre : List ExceptionTableEntry) (x : ExceptionTableEntry) (suf : List ExceptionTableEntry) (hsplit : c.exceptionTable.toList = pre ++ x :: suf) (hpass : ∀ q ∈ pre, covers q pc = false ∨ (q.catchType ≠ 0 ∧ ∃ nm : String, (Cond.classLink own q.catchType nm).before args s = true ∧ va_Nc E nm s)) (hx : covers x pc = true) (h0 : x.catchType ≠ 0) (hlink : Cond.classLink own x.catchType E ∈ lw_all) (hcast : (Cond.castable E E).before args s = true)
    (kk : ∀ (q : Nat) (H1 : Heap) (locs1 : List Loc), RW D ws s.heap H1 locs1 → W p l e Rm s m args below meth c H1 locs1 1 6 Q (F0 m x.handlerPc ls [.ref q])) : W p l e Rm s m args below meth c H locs 0 0 Q (F0 m pc ls st0) := by
  obtain ⟨hexec, hb, hml, hown, hts, hK, hlk⟩ := M
  intro T hT X0
  rcases hr T hT X0 with ⟨v, st₀, t, T', L, h9, X', hL, e1, e2, hf, st⟩ | ⟨q, st₀, t, T', L, E', ce, h9, X', hL, e1, e2, ⟨rfl, hP, hF⟩, hce, hcv, hcl, st⟩
  · exact hf.elim
  · have hsub : ∀ q, AL ws H.size q → AL ws s.heap.size q := fun q h => h.elim Or.inl (fun h => Or.inr (Nat.le_trans X.2.2.1 h))
    rw [va_F, h9] at hF
    have X1 : RW D ws s.heap T'.heap (locs ++ L) := by
      refine ⟨by rw [e1]; exact hP, X.2.1, by rw [e1]; exact Nat.le_trans X.2.2.1 hF.1, fun q hq hA => ?_, fun q hq => ?_⟩
      · rw [e1, hF.2 q (Nat.lt_of_lt_of_le hq X.2.2.1) (fun z => hA (hsub q z))]; exact X.2.2.2.1 q hq hA
      · rcases List.mem_append.mp hq with h | h
        · exact X.2.2.2.2 q h
        · exact hsub _ (hL q h)
    obtain ⟨t2, a1, b1⟩ := vx_catch (p := p) (l := l) (e := e) (R := Rm) (s := s) (m := m) (args := args) (below := below) (meth := meth) (c := c) (H := T'.heap) (locs := locs ++ L) (cells := 0 + 1) (slots := 0 + 6) (Q := Q) (ls := ls) (rest := rest) (pc := pc) (E := E') (ce := ce) (q := q) hown pre x suf hsplit hpass hx h0 (hts _ hlink) hcast (by rw [e1]; exact hce) hcv hcl (kk q _ _ X1) T' rfl X'
    exact ⟨t2, st.trans a1, b1⟩
theorem z_xcatchV {y : MethodName} {cc' : ByteArray} {nL' b : Nat} {ret' : Option FieldType} {rm' : Room} {C E : String} {As st : List Value} (M : MC D ca p s m args meth c cc nL own) (hZ : ZF z (AL ws0 s.heap.size) s s.heap) (X : RW D ws s.heap H locs) (hf0 : ws.map Prod.fst = ws0.map Prod.fst)
    (hM : vx_Met l y (ws_ y cc' nL' ret') rm' (PCz z D ca ws H.size (.ref b :: As)) QNo (XCw D ws H.size E) 1 6 (AL ws H.size)) (hsz : ls.size = nL) (n : Nat) (q1 : Cond.methodLink own idx y ∈ lw_all) (q2 : Cond.instanceMethod y ∈ lw_all) (q3 : Cond.selects C y y ∈ lw_all) (q4 : Cond.initialized C ∈ lw_all) (q5 : Cond.code y cc' nL' ret' ∈ lw_all)
    (hd : y.cls = C ∧ y.cls ≠ "java/lang/invoke/MethodHandle" ∧ y.cls ≠ "java/lang/invoke/VarHandle" ∧ (parseMethodDescriptor y.desc).map (fun d => d.parameters.length) = some n) (hR : (rm'.frames + 1 ≤ Rm.frames ∧ 8 + (nL' + 11) + rm'.locals ≤ Rm.locals) ∧ (rm'.cells = 1 ∧ rm'.slots = 6))
    (hrecv : (∃ cell : Cell, H[b]? = some cell ∧ cell.vm.isStatics = false ∧ s.vm.findClass C = some cell.cls)) (hn : As.length = n) (hst0 : st = As.reverse ++ .ref b :: rest) (hcat : (rest.map fun v => v.category).sum ≤ 8) (hdg : decode cc pc = .ok (.invokevirtual idx, 3)) (hf : 1 ≤ Rm.cells ∧ 6 ≤ Rm.slots)
    (pre : List ExceptionTableEntry) (x : ExceptionTableEntry) (suf : List ExceptionTableEntry) (hsplit : c.exceptionTable.toList = pre ++ x :: suf) (hpass : ∀ q ∈ pre, covers q pc = false ∨ (q.catchType ≠ 0 ∧ ∃ nm : String, (Cond.classLink own q.catchType nm).before args s = true ∧ va_Nc E nm s)) (hx : covers x pc = true) (h0 : x.catchType ≠ 0) (hlink : Cond.classLink own x.catchType E ∈ lw_all) (hW : Cond.castable E E ∈ zW)
    (kk : ∀ (q : Nat) (H1 : Heap) (locs1 : List Loc), RW D ws s.heap H1 locs1 → W p l e Rm s m args below meth c H1 locs1 1 6 Q (F0 m x.handlerPc ls [.ref q])) : W p l e Rm s m args below meth c H locs 0 0 Q (F0 m pc ls st) := by
  have M' := M
  obtain ⟨hexec, hb, hml, hown, hts, hK, -⟩ := M'
  subst hst0
  have hG : GoodIn lw_all (wsV own idx C y (ws_ y cc' nL' ret')) := good_in (fun w hw => by
    rcases List.mem_append.mp hw with h | h
    · simp only [List.mem_cons, List.not_mem_nil, or_false] at h
      rcases h with rfl | rfl | rfl | rfl
      · exact q1
      · exact q2
      · exact q3
      · exact q4
    · exact good_ws q5 w h)
  exact z_xcatch M X (vx_runV (As := As) (rest := rest) ⟨hexec, hb, hml, hown, hts⟩ hM (cwV n hts hG rfl hR.2.1 hR.2.2 hd hR.1) ⟨PCz_blind, hrecv, z_pre M hZ X hf0⟩ rfl hn hsz rfl (lv_room hcat) hdg (by rw [Nat.zero_add, Nat.zero_add]; exact hf))
    pre x suf hsplit hpass hx h0 hlink (va_Nw.use (zW_tab _ hW) (hZ.2.2.2.2.2.2.2.2.2.1 _ hW)) kk
end WRAP
