/-! ZF: what the heap holds from the start and nobody writes: String constants, statics, the script -/
def zs : List (String × Nat × String) := [("SlantGaugesLaw", 46, "gauges"), ("SlantGaugesLaw", 27, " -"), ("SlantGaugesLaw", 29, " "), ("SlantGaugesLaw", 53, ";"), ("SlantGaugesLaw", 55, "leg"), ("SlantGaugesLaw", 57, "pressure"), ("SlantGaugesLaw", 59, "tube"), ("SlantGaugesLaw", 62, " mark"), ("SlantGauges", 312, "out of range"), ("SlantGauges$TextGrammar", 19, "gauges"), ("SlantGauges$TextGrammar", 49, "leg"), ("SlantGauges$TextGrammar", 58, "tube"), ("SlantGauges$TextGrammar", 108, "mark"), ("SlantGauges$TextGrammar", 63, "pressure"), ("SlantGauges", 116, "no such size"), ("SlantGauges", 306, "no such tube"), ("SlantGauges", 169, "no such number of a tube"), ("SlantGauges", 304, "no such point"), ("SlantGauges", 308, "no such leg"), ("SlantGauges", 149, "no such number of a leg"), ("SlantGauges", 164, "no such account")]
def zbyt : List (List Int32) := [[103, 97, 117, 103, 101, 115], [32, 45], [32], [59], [108, 101, 103], [112, 114, 101, 115, 115, 117, 114, 101], [116, 117, 98, 101], [32, 109, 97, 114, 107], [111, 117, 116, 32, 111, 102, 32, 114, 97, 110, 103, 101], [103, 97, 117, 103, 101, 115], [108, 101, 103], [116, 117, 98, 101], [109, 97, 114, 107], [112, 114, 101, 115, 115, 117, 114, 101], [110, 111, 32, 115, 117, 99, 104, 32, 115, 105, 122, 101], [110, 111, 32, 115, 117, 99, 104, 32, 116, 117, 98, 101], [110, 111, 32, 115, 117, 99, 104, 32, 110, 117, 109, 98, 101, 114, 32, 111, 102, 32, 97, 32, 116, 117, 98, 101], [110, 111, 32, 115, 117, 99, 104, 32, 112, 111, 105, 110, 116], [110, 111, 32, 115, 117, 99, 104, 32, 108, 101, 103], [110, 111, 32, 115, 117, 99, 104, 32, 110, 117, 109, 98, 101, 114, 32, 111, 102, 32, 97, 32, 108, 101, 103], [110, 111, 32, 115, 117, 99, 104, 32, 97, 99, 99, 111, 117, 110, 116]]
def zO (i : Nat) : String := ((zs[i]?).getD ("", 0, "")).1
def zK (i : Nat) : Nat := ((zs[i]?).getD ("", 0, "")).2.1
def zT (i : Nat) : String := ((zs[i]?).getD ("", 0, "")).2.2
def zlen (i : Nat) : Nat := (zbyt.getD i []).length
def zch (i j : Nat) : Int32 := (zbyt.getD i []).getD j 0
/-- links to members that are private in a nested class -/
def zN : List (String × Nat × MethodName) := [(RX3, 17, yX1_init), (RX3, 31, yX6_init), (RX7, 31, yX5_init)]
abbrev ZG : Type := (Nat → Nat) × (Nat → Nat) × Nat × Nat × (Nat → Int32)
/-- z.2.2: the script's cell, its length, what it holds -/
def ZF (z : ZG) (A : Nat → Prop) (U : State) (H : Heap) : Prop :=
  (∀ i, i < 21 → va_O "java/lang/String" (z.1 i) A U H ∧ va_OF "java/lang/String" "coder" "B" (.int 0) (z.1 i) A U H ∧ va_OF "java/lang/String" "value" "[B" (.ref (z.2.1 i)) (z.1 i) A U H ∧ va_T .byte (z.2.1 i) (zlen i) (fun j => .int (zch i j)) A U H) ∧
  (∀ i, i < 21 → vk_R (zO i) (zK i) (zT i) (z.1 i) U) ∧
  va_Z "java/lang/String" "COMPACT_STRINGS" "Z" (.int 1) A U H ∧
  va_Zq "jdk/internal/util/Preconditions" "SIOOBE_FORMATTER" "Ljava/util/function/BiFunction;" A U H ∧
  va_T .int z.2.2.1 z.2.2.2.1 (fun j => .int (z.2.2.2.2 j)) A U H ∧
  (∀ q ∈ zN, va_Nw (.methodLinkNest q.1 q.2.1 q.2.2 "SlantGauges") U) ∧
  va_AO RX3 U ∧ va_AO RX6 U
theorem ZF.step {z : ZG} {A B : Nat → Prop} {s U : State} {H H1 : Heap} (h : ZF z A s H) (hq : ∀ a : Nat, a < H.size → ¬ A a → H1[a]? = H[a]?) (hAB : ∀ q, B q → A q) (hW : s.WarmedH U.vm) : ZF z B U H1 := by
  obtain ⟨h1, h2, h3, h4, h5, h11, h14, h15⟩ := h
  have ha := hW.alike
  refine ⟨fun i hi => ?_, fun i hi => (h2 i hi).warm hW, ?_, ?_, ?_, fun q hq => va_Nw.warmM hW (h11 q hq), h14.moved ha, h15.moved ha⟩
  · obtain ⟨a1, a2, a3, a4⟩ := h1 i hi
    exact ⟨va_O.moved ha ((a1.kept hq).narrow hAB), va_OF.moved ha ((a2.kept hq).narrow hAB), va_OF.moved ha ((a3.kept hq).narrow hAB), va_T.moved ha ((a4.kept hq).narrow hAB)⟩
  · exact va_Z.moved ha ((h3.kept hq).narrow hAB)
  · exact va_Zq.moved ha ((h4.kept hq).narrow hAB)
  · exact va_T.moved ha ((h5.kept hq).narrow hAB)
theorem ZF.same {z : ZG} {A : Nat → Prop} {u U : State} {H : Heap} (hv : U.vm = u.vm) (h : ZF z A u H) : ZF z A U H := by
  obtain ⟨h1, h2, h3, h4, h5, h11, h14, h15⟩ := h
  have ha : u.vm.Alike U.vm := by rw [hv]; exact Vm.Alike.refl _
  refine ⟨fun i hi => ?_, fun i hi => (h2 i hi).same hv, va_Z.moved ha h3, va_Zq.moved ha h4, va_T.moved ha h5, fun q hq => va_Nw.same rfl hv.symm (h11 q hq), h14.moved ha, h15.moved ha⟩
  obtain ⟨a1, a2, a3, a4⟩ := h1 i hi
  exact ⟨va_O.moved ha a1, va_OF.moved ha a2, va_OF.moved ha a3, va_T.moved ha a4⟩
def PCz (z : ZG) (D : va_G) (ca : Nat → ClassId) (ws : va_W) (sz : Nat) (av : List Value) : Array Value → State → Prop := fun v U => PCw D ca ws sz av v U ∧ ZF z (AL ws sz) U U.heap
theorem PCz_blind {z : ZG} {D : va_G} {ca : Nat → ClassId} {ws : va_W} {sz : Nat} {av : List Value} : FrameBlind (PCz z D ca ws sz av) := fun a U g mk q => ⟨PCw_blind a U g mk q.1, ZF.same (u := U) rfl q.2⟩
theorem met_z {l : Launch} {y : MethodName} {cc : ByteArray} {nL : Nat} {ret : Option FieldType} {rm : Room} {z : ZG} {D : va_G} {ca : Nat → ClassId} {ws ws' : va_W} {sz : Nat} {av : List Value} {v : Option Value} {mc ms : Nat} (hy : plainFor y = true) (hav : (lg_sl av).length ≤ nL)
    (body : ∀ (p : Program) (e : Env) (s : State) (m : MethodId) (args : Array Value) (below : List Frame) (meth : Method) (c : Code), MC D ca p s m args meth c cc nL y.cls → meth.sig.returnType = ret → ZF z (AL ws s.heap.size) s s.heap → RW D ws s.heap s.heap [] → s.heap.size = sz → ∀ ls : Array Slot, lv_has ls nL (lv_args 0 av) →
      W p l e rm s m args below meth c s.heap [] 0 0 (MQ below (QMw D ws ws' sz v) args s mc ms (AL ws sz)) (F0 m 0 ls [])) : Met l y (ws_ y cc nL ret) rm (PCz z D ca ws sz av) (QMw D ws ws' sz v) mc ms (AL ws sz) := by
  refine Met_ofWF (cc := cc) (maxL := nL) (ret := ret) hy rfl ?_
  intro p e s m args below meth c s₁ B hml hv
  obtain ⟨⟨rfl, hsz, hP, hK, hD0⟩, hZ⟩ := hv
  have hts := atoms_spec (ws := ws_ y cc nL ret) B.pre
  have hD : va_D (AL ws s.heap.size) ws := hD0.weaken (fun k q hk _ => Or.inl (List.mem_map.mpr ⟨q, List.mem_of_getElem? hk, rfl⟩))
  have hl := lv_entry av (n := nL) hav
  rw [lg_entry_eq]
  exact body p e s m _ below meth c ⟨B.exec, B.bytes, hml, findClass_of_methodNamed B.named, fun w h => hts w (List.mem_cons_of_mem _ h), hK, B.notSynchronized⟩ B.returns (by rw [hsz]; exact hZ) ⟨hP, hD, va_S.rf⟩ hsz _ hl
section ZRW
variable {p : Program} {l : Launch} {e : Env} {Rm : Room} {s : State} {m : MethodId} {args : Array Value} {below : List Frame} {meth : Method} {c : Code} {H0 H : Heap} {locs : List Loc} {cells slots : Nat} {Q : State → Prop}
variable {cc : ByteArray} {nL : Nat} {own : String} {z : ZG} {D : va_G} {ca : Nat → ClassId} {ws ws0 ws2 : va_W} {pc : Nat} {ls : Array Slot} {rest : List Value} {a i idx : Nat}
theorem z_S (X : RW D ws s.heap H locs) (hf0 : ws.map Prod.fst = ws0.map Prod.fst) : va_S (AL ws0 s.heap.size) s.heap H locs := AL_fst (sz := s.heap.size) hf0 ▸ X.2.2
theorem z_pre {av : List Value} (M : MC D ca p s m args meth c cc nL own) (hZ : ZF z (AL ws0 s.heap.size) s s.heap) (X : RW D ws s.heap H locs) (hf0 : ws.map Prod.fst = ws0.map Prod.fst) : ∀ U : State, U.heap = H → s.WarmedH U.vm → PCz z D ca ws H.size av av.toArray U := fun U hU hW => by
  refine ⟨w_pre M X U hU hW, ?_⟩
  rw [hU]
  have hS := z_S X hf0
  refine hZ.step hS.2.1 (fun q hq => ?_) hW
  rw [← AL_fst hf0]
  exact hq.elim Or.inl (fun h => Or.inr (Nat.le_trans hS.1 h))
theorem z_callV {y : MethodName} {cc' : ByteArray} {nL' b : Nat} {ret' : Option FieldType} {rm' : Room} {C : String} {v : Option Value} {As st st' : List Value} (M : MC D ca p s m args meth c cc nL own) (hZ : ZF z (AL ws0 s.heap.size) s s.heap) (X : RW D ws s.heap H locs) (hf0 : ws.map Prod.fst = ws0.map Prod.fst) (hfst : ws2.map Prod.fst = ws.map Prod.fst)
    (hM : Met l y (ws_ y cc' nL' ret') rm' (PCz z D ca ws H.size (.ref b :: As)) (QMw D ws ws2 H.size v) 0 0 (AL ws H.size)) (hsz : ls.size = nL) (n : Nat) (q1 : Cond.methodLink own idx y ∈ lw_all) (q2 : Cond.instanceMethod y ∈ lw_all) (q3 : Cond.selects C y y ∈ lw_all) (q4 : Cond.initialized C ∈ lw_all) (q5 : Cond.code y cc' nL' ret' ∈ lw_all)
    (hd : y.cls = C ∧ y.cls ≠ "java/lang/invoke/MethodHandle" ∧ y.cls ≠ "java/lang/invoke/VarHandle" ∧ (parseMethodDescriptor y.desc).map (fun d => d.parameters.length) = some n) (hR : (rm'.frames + 1 ≤ Rm.frames ∧ 8 + (nL' + 11) + rm'.locals ≤ Rm.locals) ∧ (rm'.cells = 0 ∧ rm'.slots = 0))
    (hrecv : (∃ cell : Cell, H[b]? = some cell ∧ cell.vm.isStatics = false ∧ s.vm.findClass C = some cell.cls)) (hn : As.length = n) (hst0 : st = As.reverse ++ .ref b :: rest) (hcat : (rest.map fun v => v.category).sum ≤ 8) (hdg : decode cc pc = .ok (.invokevirtual idx, 3)) (hf : cells ≤ Rm.cells ∧ slots ≤ Rm.slots) (hst : v.toList ++ rest = st')
    (kk : ∀ (H1 : Heap) (locs1 : List Loc), RW D ws2 s.heap H1 locs1 → W p l e Rm s m args below meth c H1 locs1 cells slots Q (F0 m (pc + 3) ls st')) : W p l e Rm s m args below meth c H locs cells slots Q (F0 m pc ls st) := by
  have M' := M
  obtain ⟨hx, hb, hml, hown, hts, hK, -⟩ := M'
  subst hst0
  have hG : GoodIn lw_all (wsV own idx C y (ws_ y cc' nL' ret')) := good_in (fun w hw => by
    rcases List.mem_append.mp hw with h | h
    · simp only [List.mem_cons, List.not_mem_nil, or_false] at h
      rcases h with rfl | rfl | rfl | rfl
      · exact q1
      · exact q2
      · exact q3
      · exact q4
    · exact good_ws q5 w h)
  exact w_run X hfst (va_runV (As := As) (rest := rest) ⟨hx, hb, hml, hown, hts⟩ hM (cwV n hts hG rfl hR.2.1 hR.2.2 hd hR.1) ⟨PCz_blind, hrecv, z_pre M hZ X hf0⟩ rfl hn hsz rfl (lv_room hcat) hdg hf) hst kk
theorem z_callU {x y : MethodName} {owner : String} {cc' : ByteArray} {nL' b : Nat} {ret' : Option FieldType} {rm' : Room} {C : String} {v : Option Value} {As st st' : List Value} (M : MC D ca p s m args meth c cc nL own) (hZ : ZF z (AL ws0 s.heap.size) s s.heap) (X : RW D ws s.heap H locs) (hf0 : ws.map Prod.fst = ws0.map Prod.fst) (hfst : ws2.map Prod.fst = ws.map Prod.fst)
    (hM : Met l y (ws_ y cc' nL' ret') rm' (PCz z D ca ws H.size (.ref b :: As)) (QMw D ws ws2 H.size v) 0 0 (AL ws H.size)) (hsz : ls.size = nL) (n : Nat) (q1 : Cond.methodLink own idx x ∈ lw_all) (q6 : Cond.sameMethod x.cls owner x.name x.desc ∈ lw_all) (q2 : Cond.instanceMethod y ∈ lw_all) (q3 : Cond.selects C x y ∈ lw_all) (q4 : Cond.initialized y.cls ∈ lw_all) (q5 : Cond.code y cc' nL' ret' ∈ lw_all)
    (hyx : y = ⟨owner, x.name, x.desc⟩) (hd : owner ≠ "java/lang/invoke/MethodHandle" ∧ owner ≠ "java/lang/invoke/VarHandle" ∧ (parseMethodDescriptor x.desc).map (fun d => d.parameters.length) = some n) (hR : (rm'.frames + 1 ≤ Rm.frames ∧ 8 + (nL' + 11) + rm'.locals ≤ Rm.locals) ∧ (rm'.cells = 0 ∧ rm'.slots = 0))
    (hrecv : (∃ cell : Cell, H[b]? = some cell ∧ cell.vm.isStatics = false ∧ s.vm.findClass C = some cell.cls)) (hn : As.length = n) (hst0 : st = As.reverse ++ .ref b :: rest) (hcat : (rest.map fun v => v.category).sum ≤ 8) (hdg : decode cc pc = .ok (.invokevirtual idx, 3)) (hf : cells ≤ Rm.cells ∧ slots ≤ Rm.slots) (hst : v.toList ++ rest = st')
    (kk : ∀ (H1 : Heap) (locs1 : List Loc), RW D ws2 s.heap H1 locs1 → W p l e Rm s m args below meth c H1 locs1 cells slots Q (F0 m (pc + 3) ls st')) : W p l e Rm s m args below meth c H locs cells slots Q (F0 m pc ls st) := by
  have M' := M
  obtain ⟨hx, hb, hml, hown, hts, hK, -⟩ := M'
  subst hst0
  have hG : GoodIn lw_all (va_wsU own idx C owner x y (ws_ y cc' nL' ret')) := good_in (fun w hw => by
    rcases List.mem_append.mp hw with h | h
    · simp only [List.mem_cons, List.not_mem_nil, or_false] at h
      rcases h with rfl | rfl | rfl | rfl | rfl
      · exact q1
      · exact q6
      · exact q3
      · exact q2
      · exact q4
    · exact good_ws q5 w h)
  exact w_run X hfst (va_runU (As := As) (rest := rest) ⟨hx, hb, hml, hown, hts⟩ hM (va_cwU n hts hG rfl hR.2.1 hR.2.2 hyx hd hR.1) ⟨PCz_blind, hrecv, z_pre M hZ X hf0⟩ rfl hn hsz rfl (lv_room hcat) hdg hf) hst kk
theorem z_callSU {y : MethodName} {cc' : ByteArray} {nL' b : Nat} {ret' : Option FieldType} {rm' : Room} {C : String} {v : Option Value} {As st st' : List Value} (M : MC D ca p s m args meth c cc nL own) (hZ : ZF z (AL ws0 s.heap.size) s s.heap) (X : RW D ws s.heap H locs) (hf0 : ws.map Prod.fst = ws0.map Prod.fst) (hfst : ws2.map Prod.fst = ws.map Prod.fst)
    (hM : Met l y (ws_ y cc' nL' ret') rm' (PCz z D ca ws H.size (.ref b :: As)) (QMw D ws ws2 H.size v) 0 0 (AL ws H.size)) (hsz : ls.size = nL) (n : Nat) (q1 : Cond.methodLink own idx y ∈ lw_all) (q6 : Cond.sameMethod y.cls y.cls y.name y.desc ∈ lw_all) (q7 : Cond.superclass own y.cls ∈ lw_all) (q2 : Cond.instanceMethod y ∈ lw_all) (q4 : Cond.initialized y.cls ∈ lw_all) (q5 : Cond.code y cc' nL' ret' ∈ lw_all)
    (hd : y.name ≠ "<init>" ∧ (parseMethodDescriptor y.desc).map (fun d => d.parameters.length) = some n) (hR : (rm'.frames + 1 ≤ Rm.frames ∧ 8 + (nL' + 11) + rm'.locals ≤ Rm.locals) ∧ (rm'.cells = 0 ∧ rm'.slots = 0))
    (hat : ∃ cC, ClassAt s C cC) (hrecv : (∃ cell : Cell, H[b]? = some cell ∧ cell.vm.isStatics = false ∧ s.vm.findClass C = some cell.cls)) (hn : As.length = n) (hst0 : st = As.reverse ++ .ref b :: rest) (hcat : (rest.map fun v => v.category).sum ≤ 8) (hdg : decode cc pc = .ok (.invokespecial idx, 3)) (hf : cells ≤ Rm.cells ∧ slots ≤ Rm.slots) (hst : v.toList ++ rest = st')
    (kk : ∀ (H1 : Heap) (locs1 : List Loc), RW D ws2 s.heap H1 locs1 → W p l e Rm s m args below meth c H1 locs1 cells slots Q (F0 m (pc + 3) ls st')) : W p l e Rm s m args below meth c H locs cells slots Q (F0 m pc ls st) := by
  have M' := M
  obtain ⟨hx, hb, hml, hown, hts, hK, -⟩ := M'
  subst hst0
  obtain ⟨cC, hat⟩ := hat
  have hG : GoodIn lw_all (va_wsSU own idx y (ws_ y cc' nL' ret')) := good_in (fun w hw => by
    rcases List.mem_append.mp hw with h | h
    · simp only [List.mem_cons, List.not_mem_nil, or_false] at h
      rcases h with rfl | rfl | rfl | rfl | rfl
      · exact q1
      · exact q6
      · exact q7
      · exact q2
      · exact q4
    · exact good_ws q5 w h)
  exact w_run X hfst (va_runSU (As := As) (rest := rest) hat ⟨hx, hb, hml, hown, hts⟩ hM (va_cwSU n hts hG rfl hR.2.1 hR.2.2 hd hR.1) ⟨PCz_blind, hrecv, z_pre M hZ X hf0⟩ rfl hn hsz rfl (lv_room hcat) hdg hf) hst kk
theorem z_callS {y : MethodName} {cc' : ByteArray} {nL' : Nat} {ret' : Option FieldType} {rm' : Room} {v : Option Value} {As st st' : List Value} (M : MC D ca p s m args meth c cc nL own) (hZ : ZF z (AL ws0 s.heap.size) s s.heap) (X : RW D ws s.heap H locs) (hf0 : ws.map Prod.fst = ws0.map Prod.fst) (hfst : ws2.map Prod.fst = ws.map Prod.fst)
    (hM : Met l y (ws_ y cc' nL' ret') rm' (PCz z D ca ws H.size As) (QMw D ws ws2 H.size v) 0 0 (AL ws H.size)) (hsz : ls.size = nL) (n : Nat) (q1 : Cond.methodLink own idx y ∈ lw_all) (q2 : Cond.static y ∈ lw_all) (q4 : Cond.initialized y.cls ∈ lw_all) (q5 : Cond.code y cc' nL' ret' ∈ lw_all)
    (hd : y.cls ≠ "java/lang/invoke/MethodHandle" ∧ y.cls ≠ "java/lang/invoke/VarHandle" ∧ (parseMethodDescriptor y.desc).map (fun d => d.parameters.length) = some n) (hR : (rm'.frames + 1 ≤ Rm.frames ∧ 8 + (nL' + 11) + rm'.locals ≤ Rm.locals) ∧ (rm'.cells = 0 ∧ rm'.slots = 0))
    (hn : As.length = n) (hst0 : st = As.reverse ++ rest) (hcat : (rest.map fun v => v.category).sum ≤ 8) (hdg : decode cc pc = .ok (.invokestatic idx, 3)) (hf : cells ≤ Rm.cells ∧ slots ≤ Rm.slots) (hst : v.toList ++ rest = st')
    (kk : ∀ (H1 : Heap) (locs1 : List Loc), RW D ws2 s.heap H1 locs1 → W p l e Rm s m args below meth c H1 locs1 cells slots Q (F0 m (pc + 3) ls st')) : W p l e Rm s m args below meth c H locs cells slots Q (F0 m pc ls st) := by
  have M' := M
  obtain ⟨hx, hb, hml, hown, hts, hK, -⟩ := M'
  subst hst0
  have hG : GoodIn lw_all (va_wsS own idx y (ws_ y cc' nL' ret')) := good_in (fun w hw => by
    rcases List.mem_append.mp hw with h | h
    · simp only [List.mem_cons, List.not_mem_nil, or_false] at h
      rcases h with rfl | rfl | rfl
      · exact q1
      · exact q2
      · exact q4
    · exact good_ws q5 w h)
  exact w_run X hfst (va_runS (As := As) (rest := rest) ⟨hx, hb, hml, hown, hts⟩ hM (va_cwS n hts hG rfl hR.2.1 hR.2.2 hd hR.1) ⟨PCz_blind, z_pre M hZ X hf0⟩ rfl hn hsz rfl (lv_room hcat) hdg hf) hst kk
theorem z_recv (hZ : ZF z (AL ws0 s.heap.size) s s.heap) (X : RW D ws s.heap H locs) (hf0 : ws.map Prod.fst = ws0.map Prod.fst) (hi : i < 21) : ∃ cell : Cell, H[z.1 i]? = some cell ∧ cell.vm.isStatics = false ∧ s.vm.findClass "java/lang/String" = some cell.cls := by
  have hS := z_S X hf0
  obtain ⟨cell, h1, h2, h3, -⟩ := (hZ.1 i hi).1.kept hS.2.1
  exact ⟨cell, h1, h2, h3⟩
theorem z_recvw {q0 ci : Nat} {fs : List Value} {qc : vw_C} {C : String} (M : MC D ca p s m args meth c cc nL own) (X : RW D ws s.heap H locs) (he : ws[q0]? = some (a, .inr (ci, fs))) (hc : vwCl[ci]? = some qc) (hqc : qc.1 = C) : ∃ cell : Cell, H[a]? = some cell ∧ cell.vm.isStatics = false ∧ s.vm.findClass C = some cell.cls := hqc ▸ va_recv M.2.2.2.2.2.1 X.1 hc he
theorem z_at {ci : Nat} {qc : vw_C} {C : String} (M : MC D ca p s m args meth c cc nL own) (hc : vwCl[ci]? = some qc) (hqc : qc.1 = C) : ∃ cC, ClassAt s C cC := ⟨_, hqc ▸ (M.2.2.2.2.2.1.1 ci qc hc).2⟩
theorem z_ldc (M : MC D ca p s m args meth c cc nL own) (hZ : ZF z (AL ws0 s.heap.size) s s.heap) (i : Nat) (hi : i < 21) (ho : zO i = own ∧ zK i = idx) (hdg : decode cc pc = .ok (.ldc idx, 2))
    (k : W p l e Rm s m args below meth c H locs cells slots Q (F0 m (pc + 2) ls (.ref (z.1 i) :: rest))) : W p l e Rm s m args below meth c H locs cells slots Q (F0 m pc ls rest) := by
  have h := hZ.2.1 i hi
  rw [ho.1, ho.2] at h
  exact va_ldcS M.1 M.2.1 M.2.2.2.1 h hdg k
theorem z_ldcwT {T : State} (X : Stand p l e Rm s m args below meth c T locs cells slots) (hexec : p.tables.exec = Jvm.exec) {own text : String} {index : Nat} {q : Nat} (hown : s.vm.findClass own = some m.cls)
    (hconst : (Cond.stringRef own index text).before args s = true) (hev : (Term.string own index).eval args s none [] s = some (.ref q)) {g : JFrame} (hg : g.method = m) (hdg : decode c.code g.pc = .ok (.ldc_w index, 3)) :
    ∀ target, Steps p.tables e below (T.setTop { g with pc := g.pc + 3, stack := .ref q :: g.stack }) target → Steps p.tables e below (T.setTop g) target := by
  obtain ⟨k, cf, i, a', hk, hcf, hcp, -, hr, hev'⟩ := Cond.stringRef_spec hown hconst
  cases hev.symm.trans hev'
  obtain ⟨k', hk', he⟩ := X.warmed.alike.2.2 _ _ hk
  have hr' : k'.resolved[index]? = some (some (.string q)) := by
    rcases X.warmed.entry hk hk' index with h | ⟨h, -⟩
    · rw [h]; exact hr
    · rw [hr] at h; cases h
  intro target hrest
  subst hg
  jvm_step X.here [hexec, hdg, ldc_w.wp_string (e := e) (s := T) (f := g) X.here.top hk' (by rw [he]; exact hcf) hcp hr']
  exact hrest
theorem z_ldcw (M : MC D ca p s m args meth c cc nL own) (hZ : ZF z (AL ws0 s.heap.size) s s.heap) (i : Nat) (hi : i < 21) (ho : zO i = own ∧ zK i = idx) (hdg : decode cc pc = .ok (.ldc_w idx, 3))
    (k : W p l e Rm s m args below meth c H locs cells slots Q (F0 m (pc + 3) ls (.ref (z.1 i) :: rest))) : W p l e Rm s m args below meth c H locs cells slots Q (F0 m pc ls rest) := by
  have h := hZ.2.1 i hi
  rw [ho.1, ho.2] at h
  obtain ⟨hexec, hb, -, hown, -⟩ := M
  intro T hT X
  obtain ⟨t, a1, b1⟩ := k T hT X
  exact ⟨t, z_ldcwT X hexec hown (text := zT i) (q := z.1 i) h.1 h.2 (g := F0 m pc ls rest) rfl (by rw [hb]; exact hdg) t a1, b1⟩
theorem z_val (M : MC D ca p s m args meth c cc nL own) (hZ : ZF z (AL ws0 s.heap.size) s s.heap) (X : RW D ws s.heap H locs) (hf0 : ws.map Prod.fst = ws0.map Prod.fst) (hi : i < 21) (hl : Cond.fieldLink own idx "java/lang/String" "value" "[B" ∈ lw_all) (hdg : decode cc pc = .ok (.getfield idx, 3))
    (k : W p l e Rm s m args below meth c H locs cells slots Q (F0 m (pc + 3) ls (.ref (z.2.1 i) :: rest))) : W p l e Rm s m args below meth c H locs cells slots Q (F0 m pc ls (.ref (z.1 i) :: rest)) :=
  vk_getf M.1 M.2.1 (hZ.1 i hi).2.2.1 (z_S X hf0) M.2.2.2.1 (M.2.2.2.2.1 _ hl) (fun _ h => h) hdg k
theorem z_cod (M : MC D ca p s m args meth c cc nL own) (hZ : ZF z (AL ws0 s.heap.size) s s.heap) (X : RW D ws s.heap H locs) (hf0 : ws.map Prod.fst = ws0.map Prod.fst) (hi : i < 21) (hl : Cond.fieldLink own idx "java/lang/String" "coder" "B" ∈ lw_all) (hdg : decode cc pc = .ok (.getfield idx, 3))
    (k : W p l e Rm s m args below meth c H locs cells slots Q (F0 m (pc + 3) ls (.int 0 :: rest))) : W p l e Rm s m args below meth c H locs cells slots Q (F0 m pc ls (.ref (z.1 i) :: rest)) :=
  vk_getf M.1 M.2.1 (hZ.1 i hi).2.1 (z_S X hf0) M.2.2.2.1 (M.2.2.2.2.1 _ hl) (fun _ h => h) hdg k
theorem z_len (M : MC D ca p s m args meth c cc nL own) (hZ : ZF z (AL ws0 s.heap.size) s s.heap) (X : RW D ws s.heap H locs) (hf0 : ws.map Prod.fst = ws0.map Prod.fst) (hi : i < 21) (hdg : decode cc pc = .ok (.arraylength, 1))
    (k : W p l e Rm s m args below meth c H locs cells slots Q (F0 m (pc + 1) ls (.int (nI (zlen i)) :: rest))) : W p l e Rm s m args below meth c H locs cells slots Q (F0 m pc ls (.ref (z.2.1 i) :: rest)) :=
  va_tlen M.1 M.2.1 (hZ.1 i hi).2.2.2 (z_S X hf0) rfl hdg k
theorem z_bald (M : MC D ca p s m args meth c cc nL own) (hZ : ZF z (AL ws0 s.heap.size) s s.heap) (X : RW D ws s.heap H locs) (hf0 : ws.map Prod.fst = ws0.map Prod.fst) (hi : i < 21) {x : Int32} (hin : vp_in x (zlen i)) (hdg : decode cc pc = .ok (.baload, 1))
    (k : W p l e Rm s m args below meth c H locs cells slots Q (F0 m (pc + 1) ls (.int (zch i x.toNatClampNeg) :: rest))) : W p l e Rm s m args below meth c H locs cells slots Q (F0 m pc ls (.int x :: .ref (z.2.1 i) :: rest)) :=
  va_tb M.1 M.2.1 (hZ.1 i hi).2.2.2 (z_S X hf0) hin rfl hdg k
theorem z_ilen (M : MC D ca p s m args meth c cc nL own) (hZ : ZF z (AL ws0 s.heap.size) s s.heap) (X : RW D ws s.heap H locs) (hf0 : ws.map Prod.fst = ws0.map Prod.fst) (hdg : decode cc pc = .ok (.arraylength, 1))
    (k : W p l e Rm s m args below meth c H locs cells slots Q (F0 m (pc + 1) ls (.int (nI z.2.2.2.1) :: rest))) : W p l e Rm s m args below meth c H locs cells slots Q (F0 m pc ls (.ref z.2.2.1 :: rest)) :=
  va_tlen M.1 M.2.1 hZ.2.2.2.2.1 (z_S X hf0) rfl hdg k
theorem z_iald (M : MC D ca p s m args meth c cc nL own) (hZ : ZF z (AL ws0 s.heap.size) s s.heap) (X : RW D ws s.heap H locs) (hf0 : ws.map Prod.fst = ws0.map Prod.fst) {x : Int32} (hin : vp_in x z.2.2.2.1) (hdg : decode cc pc = .ok (.iaload, 1))
    (k : W p l e Rm s m args below meth c H locs cells slots Q (F0 m (pc + 1) ls (.int (z.2.2.2.2 x.toNatClampNeg) :: rest))) : W p l e Rm s m args below meth c H locs cells slots Q (F0 m pc ls (.int x :: .ref z.2.2.1 :: rest)) :=
  va_ti M.1 M.2.1 hZ.2.2.2.2.1 (z_S X hf0) hin rfl hdg k
theorem z_compact (M : MC D ca p s m args meth c cc nL own) (hZ : ZF z (AL ws0 s.heap.size) s s.heap) (X : RW D ws s.heap H locs) (hf0 : ws.map Prod.fst = ws0.map Prod.fst) (hl : Cond.fieldLink own idx "java/lang/String" "COMPACT_STRINGS" "Z" ∈ lw_all) (hdg : decode cc pc = .ok (.getstatic idx, 3))
    (k : W p l e Rm s m args below meth c H locs cells slots Q (F0 m (pc + 3) ls (.int 1 :: rest))) : W p l e Rm s m args below meth c H locs cells slots Q (F0 m pc ls rest) :=
  va_gets M.1 M.2.1 hZ.2.2.1 (z_S X hf0) M.2.2.2.1 (M.2.2.2.2.1 _ hl) (fun _ h => h) hdg k
theorem z_fmt (M : MC D ca p s m args meth c cc nL own) (hZ : ZF z (AL ws0 s.heap.size) s s.heap) (X : RW D ws s.heap H locs) (hf0 : ws.map Prod.fst = ws0.map Prod.fst) (hl : Cond.fieldLink own idx "jdk/internal/util/Preconditions" "SIOOBE_FORMATTER" "Ljava/util/function/BiFunction;" ∈ lw_all) (hdg : decode cc pc = .ok (.getstatic idx, 3))
    (k : ∀ r : Option Nat, W p l e Rm s m args below meth c H locs cells slots Q (F0 m (pc + 3) ls (va_rf r :: rest))) : W p l e Rm s m args below meth c H locs cells slots Q (F0 m pc ls rest) := by
  rcases hZ.2.2.2.1 with h | ⟨t, h⟩
  · exact va_gets (v := .null) M.1 M.2.1 h (z_S X hf0) M.2.2.2.1 (M.2.2.2.2.1 _ hl) (fun _ h => h) hdg (k none)
  · exact va_gets (v := .ref t) M.1 M.2.1 h (z_S X hf0) M.2.2.2.1 (M.2.2.2.2.1 _ hl) (fun _ h => h) hdg (k (some t))
end ZRW
