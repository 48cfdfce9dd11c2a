/-! ROWS: one instruction or one call, over a world in one piece -/
abbrev tyl (ca : Nat → ClassId) : List (ClassId × FieldType) := [(ca 0, .byte), (ca 1, .int), (ca 2, .int), (ca 3, .object "SlantGauges$Row"), (ca 4, .object "SlantGauges$Tube")]
def AL (ws : va_W) (sz : Nat) : Nat → Prop := fun q => q ∈ ws.map Prod.fst ∨ sz ≤ q
def RW (D : va_G) (ws : va_W) (H0 H : Heap) (locs : List Loc) : Prop := va_P D vwCl ws H ∧ va_D (AL ws H0.size) ws ∧ va_S (AL ws H0.size) H0 H locs
def MC (D : va_G) (ca : Nat → ClassId) (p : Program) (s : State) (m : MethodId) (args : Array Value) (meth : Method) (c : Code) (cc : ByteArray) (nL : Nat) (own : String) : Prop :=
  p.tables.exec = Jvm.exec ∧ c.code = cc ∧ c.maxLocals = nL ∧ s.vm.findClass own = some m.cls ∧ (∀ w ∈ lw_all, w.before args s = true) ∧ va_K D vwCl (tyl ca) s ∧ meth.locks = false
def PCw (D : va_G) (ca : Nat → ClassId) (ws : va_W) (sz : Nat) (av : List Value) : Array Value → State → Prop := fun v U => v = av.toArray ∧ U.heap.size = sz ∧ va_P D vwCl ws U.heap ∧ va_K D vwCl (tyl ca) U ∧ va_D (fun _ => True) ws
def QMw (D : va_G) (ws ws' : va_W) (sz : Nat) (v : Option Value) : Array Value → State → Outcome → State → Prop := fun _ st o t => o = .returned v ∧ va_P D vwCl ws' t.heap ∧ va_D (AL ws sz) ws' ∧ va_F (AL ws sz) st t
theorem AL_fst {ws ws' : va_W} {sz : Nat} (h : ws.map Prod.fst = ws'.map Prod.fst) : AL ws sz = AL ws' sz := by unfold AL; rw [h]
theorem fst_set {ws : va_W} {q0 a : Nat} {e e' : va_E} (h : ws[q0]? = some (a, e)) : (ws.set q0 (a, e')).map Prod.fst = ws.map Prod.fst := by
  rw [List.map_set]
  apply List.ext_getElem?
  intro n
  by_cases hn : n = q0
  · subst hn
    have hl := (List.getElem?_eq_some_iff.mp h).1
    rw [List.getElem?_set_self (by simpa using hl), List.getElem?_map, h]; rfl
  · rw [List.getElem?_set_ne (Ne.symm hn)]
theorem PCw_blind {D : va_G} {ca : Nat → ClassId} {ws : va_W} {sz : Nat} {av : List Value} : FrameBlind (PCw D ca ws sz av) := fun a U g mk q => by
  obtain ⟨q0, q1, qP, qK, qD⟩ := q
  exact ⟨q0, q1, qP, va_K.moved (u := U) (U := U.calling g mk a) (Vm.Alike.refl U.vm) qK, qD⟩
theorem met_of {l : Launch} {y : MethodName} {cc : ByteArray} {nL : Nat} {ret : Option FieldType} {rm : Room} {D : va_G} {ca : Nat → ClassId} {ws ws' : va_W} {sz : Nat} {av : List Value} {v : Option Value} {mc ms : Nat} (hy : plainName y.cls = true) (hav : (lg_sl av).length ≤ nL)
    (body : ∀ (p : Program) (e : Env) (s : State) (m : MethodId) (args : Array Value) (below : List Frame) (meth : Method) (c : Code), MC D ca p s m args meth c cc nL y.cls → meth.sig.returnType = ret → RW D ws s.heap s.heap [] → s.heap.size = sz → ∀ ls : Array Slot, lv_has ls nL (lv_args 0 av) →
      W p l e rm s m args below meth c s.heap [] 0 0 (MQ below (QMw D ws ws' sz v) args s mc ms (AL ws sz)) (F0 m 0 ls [])) : Met l y (ws_ y cc nL ret) rm (PCw D ca ws sz av) (QMw D ws ws' sz v) mc ms (AL ws sz) := by
  refine Met.ofW (cc := cc) (maxL := nL) (ret := ret) hy rfl ?_
  intro p e s m args below meth c s₁ B hml hv
  obtain ⟨rfl, hsz, hP, hK, hD0⟩ := hv
  have hts := atoms_spec (ws := ws_ y cc nL ret) B.pre
  have hD : va_D (AL ws s.heap.size) ws := hD0.weaken (fun k q hk _ => Or.inl (List.mem_map.mpr ⟨q, List.mem_of_getElem? hk, rfl⟩))
  have hl := lv_entry av (n := nL) hav
  rw [lg_entry_eq]
  exact body p e s m _ below meth c ⟨B.exec, B.bytes, hml, findClass_of_methodNamed B.named, fun w h => hts w (List.mem_cons_of_mem _ h), hK, B.notSynchronized⟩ B.returns ⟨hP, hD, va_S.rf⟩ hsz _ hl
theorem Met_ofWF {l : Launch} {y : MethodName} {ws ws' : List Cond} {rm : Room} {Pc : Array Value → State → Prop} {Qc : Array Value → State → Outcome → State → Prop} {mc ms : Nat} {free : Addr → Prop} {cc : ByteArray} {maxL : Nat} {ret : Option FieldType}
    (hy : plainFor y = true) (hw : ws = Cond.code y cc maxL ret :: ws')
    (body : ∀ p e s m args below meth c s₁, BodyLoose p l y (headSpec ws rm) cc maxL ret e s m args below meth c s₁ → c.maxLocals = maxL → Pc args s →
      W p l e (headSpec ws rm).room s m args below meth c s.heap [] 0 0 (MQ below Qc args s mc ms free) (entryFrame m args maxL)) : Met l y ws rm Pc Qc mc ms free := by
  refine MetFree.of_bodySF (code := cc) (maxLocals := maxL) (ret := ret) hy ?_ ?_
  · intro args s m h hn
    obtain ⟨meth, c, h1, h2, h3, h4, h5, h6, -, -⟩ := Cond.code_spec hn (atoms_spec (ws := ws) h _ (by rw [hw]; exact List.mem_cons_self))
    exact ⟨meth, c, h1, h2, h3, h4, h5, h6⟩
  · intro p e s m args below meth c s₁ B hml hP _
    have hh0 : s₁.heap = s.heap := by rw [B.state]; rfl
    obtain ⟨t, a1, o, b1, b2, b3⟩ := body p e s m args below meth c s₁ B hml hP s₁ hh0 (Stand.of_body B)
    exact ⟨t, o, a1, b1, b2, ⟨b3.1, b3.2⟩⟩
theorem met_ofF {l : Launch} {y : MethodName} {cc : ByteArray} {nL : Nat} {ret : Option FieldType} {rm : Room} {D : va_G} {ca : Nat → ClassId} {ws ws' : va_W} {sz : Nat} {av : List Value} {v : Option Value} {mc ms : Nat} (hy : plainFor y = true) (hav : (lg_sl av).length ≤ nL)
    (body : ∀ (p : Program) (e : Env) (s : State) (m : MethodId) (args : Array Value) (below : List Frame) (meth : Method) (c : Code), MC D ca p s m args meth c cc nL y.cls → meth.sig.returnType = ret → RW D ws s.heap s.heap [] → s.heap.size = sz → ∀ ls : Array Slot, lv_has ls nL (lv_args 0 av) →
      W p l e rm s m args below meth c s.heap [] 0 0 (MQ below (QMw D ws ws' sz v) args s mc ms (AL ws sz)) (F0 m 0 ls [])) : Met l y (ws_ y cc nL ret) rm (PCw D ca ws sz av) (QMw D ws ws' sz v) mc ms (AL ws sz) := by
  refine Met_ofWF (cc := cc) (maxL := nL) (ret := ret) hy rfl ?_
  intro p e s m args below meth c s₁ B hml hv
  obtain ⟨rfl, hsz, hP, hK, hD0⟩ := hv
  have hts := atoms_spec (ws := ws_ y cc nL ret) B.pre
  have hD : va_D (AL ws s.heap.size) ws := hD0.weaken (fun k q hk _ => Or.inl (List.mem_map.mpr ⟨q, List.mem_of_getElem? hk, rfl⟩))
  have hl := lv_entry av (n := nL) hav
  rw [lg_entry_eq]
  exact body p e s m _ below meth c ⟨B.exec, B.bytes, hml, findClass_of_methodNamed B.named, fun w h => hts w (List.mem_cons_of_mem _ h), hK, B.notSynchronized⟩ B.returns ⟨hP, hD, va_S.rf⟩ hsz _ hl
section RWS
variable {p : Program} {l : Launch} {e : Env} {Rm : Room} {s : State} {m : MethodId} {args : Array Value} {below : List Frame} {meth : Method} {c : Code} {H0 H : Heap} {locs : List Loc} {cells slots : Nat} {Q : State → Prop}
variable {cc : ByteArray} {nL : Nat} {own : String} {D : va_G} {ca : Nat → ClassId} {ws ws2 : va_W} {pc : Nat} {ls : Array Slot} {rest : List Value} {a : Nat}
theorem w_get (M : MC D ca p s m args meth c cc nL own) (X : RW D ws H0 H locs) {C : String} {T : u_T} {N ci idx : Nat} {fs : List Value} {v : Value} (hin : ∀ w ∈ u_ws C T N, w ∈ lw_all) (hc : vwCl[ci]? = some (C, T, N)) (q0 : Nat) (he : ws[q0]? = some (a, .inr (ci, fs))) (k : Nat) (hk : k < N) (hl : Cond.fieldLink own idx (T k).1 (T k).2.1 (T k).2.2.1 ∈ lw_all) (hv : fs[k]? = some v) (hdg : decode cc pc = .ok (.getfield idx, 3))
    (kk : W p l e Rm s m args below meth c H locs cells slots Q (F0 m (pc + 3) ls (v :: rest))) : W p l e Rm s m args below meth c H locs cells slots Q (F0 m pc ls (.ref a :: rest)) := by
  obtain ⟨hx, hb, hml, hown, hts, hK, -⟩ := M
  exact va_get hx hb hts hin hown hK X.1 q0 he hc k hk (hts _ hl) (fun _ h => h) hv hdg kk
theorem w_put (M : MC D ca p s m args meth c cc nL own) (X : RW D ws H0 H locs) {C : String} {T : u_T} {N ci idx : Nat} {fs : List Value} {v : Value} {ty : FieldType} (hin : ∀ w ∈ u_ws C T N, w ∈ lw_all) (ty0 : Nat → FieldType) (hty : ∀ k, k < N → parseFieldDescriptor (T k).2.2.1 = some (ty0 k)) (hnm : ∀ a, a < N → ∀ b, b < N → a ≠ b → (T a).2.1 ≠ (T b).2.1) (hc : vwCl[ci]? = some (C, T, N)) (q0 : Nat) (he : ws[q0]? = some (a, .inr (ci, fs))) (k : Nat) (hk : k < N) (hl : Cond.fieldLink own idx (T k).1 (T k).2.1 (T k).2.2.1 ∈ lw_all) (hfin : (T k).2.2.2 = false) (hd : parseFieldDescriptor (T k).2.2.1 = some ty) (hn : narrow ty v = v) (hfit : fits ty v = true) (hlen : k < fs.length) (hs : ws.set q0 (a, .inr (ci, fs.set k v)) = ws2) (hdg : decode cc pc = .ok (.putfield idx, 3))
    (kk : ∀ (H1 : Heap) (locs1 : List Loc), RW D ws2 H0 H1 locs1 → W p l e Rm s m args below meth c H1 locs1 cells slots Q (F0 m (pc + 3) ls rest)) : W p l e Rm s m args below meth c H locs cells slots Q (F0 m pc ls (v :: .ref a :: rest)) := by
  obtain ⟨hx, hb, hml, hown, hts, hK, -⟩ := M
  have hf : AL ws H0.size = AL ws2 H0.size := AL_fst (by rw [← hs, fst_set he])
  refine va_put hx hb hts hin ty0 hty hnm hown hK X.1 X.2.1 X.2.2 q0 he hc k hk (hts _ hl) (fun _ h => h) hfin hd hn hfit hlen hdg (fun H1 locs1 h1 h2 h3 => kk H1 locs1 ⟨?_, ?_, ?_⟩)
  · rw [← hs]; exact h1
  · rw [← hs] at hf ⊢; rw [← hf]; exact h2
  · rw [← hf]; exact h3
theorem w_iald (M : MC D ca p s m args meth c cc nL own) (X : RW D ws H0 H locs) {n : Nat} {f : Nat → Int32} (q0 : Nat) (he : ws[q0]? = some (a, .inl (ca 1, n, .inl f))) {i : Int32} (hin : vp_in i n) (hdg : decode cc pc = .ok (.iaload, 1))
    (kk : W p l e Rm s m args below meth c H locs cells slots Q (F0 m (pc + 1) ls (.int (f i.toNatClampNeg) :: rest))) : W p l e Rm s m args below meth c H locs cells slots Q (F0 m pc ls (.int i :: .ref a :: rest)) := by
  obtain ⟨hx, hb, hml, hown, hts, hK, -⟩ := M
  exact va_iald hx hb hK X.1 q0 1 he rfl hin hdg kk
theorem w_bald (M : MC D ca p s m args meth c cc nL own) (X : RW D ws H0 H locs) {n : Nat} {f : Nat → Int32} (q0 : Nat) (he : ws[q0]? = some (a, .inl (ca 0, n, .inl f))) {i : Int32} (hin : vp_in i n) (hdg : decode cc pc = .ok (.baload, 1))
    (kk : W p l e Rm s m args below meth c H locs cells slots Q (F0 m (pc + 1) ls (.int (f i.toNatClampNeg) :: rest))) : W p l e Rm s m args below meth c H locs cells slots Q (F0 m pc ls (.int i :: .ref a :: rest)) := by
  obtain ⟨hx, hb, hml, hown, hts, hK, -⟩ := M
  exact va_bald hx hb hK X.1 q0 0 he rfl hin hdg kk
theorem w_aald (M : MC D ca p s m args meth c cc nL own) (X : RW D ws H0 H locs) {n t0 : Nat} {C : String} {f : Nat → Nat} (q0 : Nat) (he : ws[q0]? = some (a, .inl (ca t0, n, .inr (.inr (.inr (.inr fun j => some (f j))))))) (ht : (tyl ca)[t0]? = some (ca t0, .object C)) {i : Int32} (hin : vp_in i n) (hdg : decode cc pc = .ok (.aaload, 1))
    (kk : W p l e Rm s m args below meth c H locs cells slots Q (F0 m (pc + 1) ls (.ref (f i.toNatClampNeg) :: rest))) : W p l e Rm s m args below meth c H locs cells slots Q (F0 m pc ls (.int i :: .ref a :: rest)) := by
  obtain ⟨hx, hb, hml, hown, hts, hK, -⟩ := M
  exact va_aldq hx hb hK X.1 q0 t0 he ht hin hdg kk
theorem w_alen (M : MC D ca p s m args meth c cc nL own) (X : RW D ws H0 H locs) {t0 : Nat} {x : vp_A} {ty : FieldType} (q0 : Nat) (he : ws[q0]? = some (a, .inl (ca t0, x))) (ht : (tyl ca)[t0]? = some (ca t0, ty)) {v : Int32} (hv : Int32.ofNat x.1 = v) (hdg : decode cc pc = .ok (.arraylength, 1))
    (kk : W p l e Rm s m args below meth c H locs cells slots Q (F0 m (pc + 1) ls (.int v :: rest))) : W p l e Rm s m args below meth c H locs cells slots Q (F0 m pc ls (.ref a :: rest)) := by
  obtain ⟨hx, hb, hml, hown, hts, hK, -⟩ := M
  exact va_alen hx hb hK X.1 q0 t0 he ht hv hdg kk
theorem w_iast (M : MC D ca p s m args meth c cc nL own) (X : RW D ws H0 H locs) {n : Nat} {f : Nat → Int32} (q0 : Nat) (he : ws[q0]? = some (a, .inl (ca 1, n, .inl f))) {i x : Int32} (hin : vp_in i n) (hs : ws.set q0 (a, .inl (ca 1, n, .inl (va_up f i.toNatClampNeg x))) = ws2) (hdg : decode cc pc = .ok (.iastore, 1))
    (kk : ∀ (H1 : Heap) (locs1 : List Loc), RW D ws2 H0 H1 locs1 → W p l e Rm s m args below meth c H1 locs1 cells slots Q (F0 m (pc + 1) ls rest)) : W p l e Rm s m args below meth c H locs cells slots Q (F0 m pc ls (.int x :: .int i :: .ref a :: rest)) := by
  obtain ⟨hx, hb, hml, hown, hts, hK, -⟩ := M
  have hf : AL ws H0.size = AL ws2 H0.size := AL_fst (by rw [← hs, fst_set he])
  refine va_iast hx hb hK X.1 X.2.1 X.2.2 q0 1 he rfl hin hdg (fun H1 locs1 h1 h2 h3 => kk H1 locs1 ⟨?_, ?_, ?_⟩)
  · rw [← hs]; exact h1
  · rw [← hs] at hf ⊢; rw [← hf]; exact h2
  · rw [← hf]; exact h3
theorem w_bast (M : MC D ca p s m args meth c cc nL own) (X : RW D ws H0 H locs) {n : Nat} {f : Nat → Int32} (q0 : Nat) (he : ws[q0]? = some (a, .inl (ca 0, n, .inl f))) {i x : Int32} (hin : vp_in i n) (hx8 : x.toInt8.toInt32 = x) (hs : ws.set q0 (a, .inl (ca 0, n, .inl (va_up f i.toNatClampNeg x))) = ws2) (hdg : decode cc pc = .ok (.bastore, 1))
    (kk : ∀ (H1 : Heap) (locs1 : List Loc), RW D ws2 H0 H1 locs1 → W p l e Rm s m args below meth c H1 locs1 cells slots Q (F0 m (pc + 1) ls rest)) : W p l e Rm s m args below meth c H locs cells slots Q (F0 m pc ls (.int x :: .int i :: .ref a :: rest)) := by
  obtain ⟨hx, hb, hml, hown, hts, hK, -⟩ := M
  have hf : AL ws H0.size = AL ws2 H0.size := AL_fst (by rw [← hs, fst_set he])
  have hnx : vp_nar .byte x = x := by rw [vp_nar_byte]; exact hx8
  refine va_bast hx hb hK X.1 X.2.1 X.2.2 q0 0 he rfl hin hdg (fun H1 locs1 h1 h2 h3 => kk H1 locs1 ⟨?_, ?_, ?_⟩)
  · rw [hnx] at h1; rw [← hs]; exact h1
  · rw [hnx] at h2; rw [← hs] at hf ⊢; rw [← hf]; exact h2
  · rw [← hf]; exact h3
/-- behind a call: the callee's world is the caller's -/
theorem w_run {st0 rest st' : List Value} {a : Array Value} {v : Option Value} {mc ms : Nat} (X : RW D ws H0 H locs) (hfst : ws2.map Prod.fst = ws.map Prod.fst) (hr : va_Run p l e Rm s m args below meth c H locs cells slots mc ms (F0 m pc ls st0) rest (QMw D ws ws2 H.size v a) (AL ws H.size)) (hst : v.toList ++ rest = st')
    (kk : ∀ (H1 : Heap) (locs1 : List Loc), RW D ws2 H0 H1 locs1 → W p l e Rm s m args below meth c H1 locs1 (cells + mc) (slots + ms) Q (F0 m (pc + 3) ls st')) : W p l e Rm s m args below meth c H locs cells slots Q (F0 m pc ls st0) := by
  intro T hT X0
  obtain ⟨v', st₀, t, T', L, h0, X', hL, e1, e2, ⟨hv, hP, hD, hz, hk⟩, st⟩ := hr T hT X0
  cases hv
  rw [h0] at hz hk
  have hsub : ∀ q, AL ws H.size q → AL ws H0.size q := fun q h => h.elim Or.inl (fun h => Or.inr (Nat.le_trans X.2.2.1 h))
  have hf : AL ws H0.size = AL ws2 H0.size := AL_fst hfst.symm
  obtain ⟨t2, a1, b1⟩ := kk T'.heap (locs ++ L) ⟨by rw [e1]; exact hP, by rw [← hf]; exact hD.weaken (fun _ _ _ h => hsub _ h), by
    rw [← hf]
    refine ⟨Nat.le_trans X.2.2.1 (by rw [e1]; exact hz), fun q h1 h2 => ?_, fun q hq => ?_⟩
    · rw [e1, hk q (Nat.lt_of_lt_of_le h1 X.2.2.1) (fun z => h2 (hsub q z))]; exact X.2.2.2.1 q h1 h2
    · rcases List.mem_append.mp hq with h | h
      · exact X.2.2.2.2 q h
      · exact hsub _ (hL q h)⟩ T' rfl X'
  exact ⟨t2, st t2 (by rw [hst]; exact a1), b1⟩
theorem good_in {ts : List Cond} (h : ∀ w ∈ ts, w ∈ lw_all) : GoodIn lw_all ts := fun w hw => ⟨h w hw, lw_all_good w (h w hw)⟩
theorem good_ws {y : MethodName} {cc' : ByteArray} {n : Nat} {r : Option FieldType} (h : Cond.code y cc' n r ∈ lw_all) : ∀ w ∈ ws_ y cc' n r, w ∈ lw_all := fun w hw => (List.mem_cons.mp hw).elim (fun q => q ▸ h) id
theorem w_pre {av : List Value} (M : MC D ca p s m args meth c cc nL own) (X : RW D ws H0 H locs) : ∀ U : State, U.heap = H → s.WarmedH U.vm → PCw D ca ws H.size av av.toArray U := fun U hU hW =>
  ⟨rfl, by rw [hU], by rw [hU]; exact X.1, va_K.moved hW.alike M.2.2.2.2.2.1, X.2.1.weaken (fun _ _ _ _ => trivial)⟩
theorem w_callV {y : MethodName} {cc' : ByteArray} {nL' idx ci q0 mc ms b : Nat} {ret' : Option FieldType} {rm' : Room} {C : String} {v : Option Value} {As st st' : List Value} {qc : vw_C} {fs : List Value} (M : MC D ca p s m args meth c cc nL own) (X : RW D ws H0 H locs) (hfst : ws2.map Prod.fst = ws.map Prod.fst)
    (hM : Met l y (ws_ y cc' nL' ret') rm' (PCw D ca ws H.size (.ref b :: As)) (QMw D ws ws2 H.size v) mc ms (AL ws H.size)) (hsz : ls.size = nL) (n : Nat) (q1 : Cond.methodLink own idx y ∈ lw_all) (q2 : Cond.instanceMethod y ∈ lw_all) (q3 : Cond.selects C y y ∈ lw_all) (q4 : Cond.initialized C ∈ lw_all) (q5 : Cond.code y cc' nL' ret' ∈ lw_all)
    (hd : y.cls = C ∧ y.cls ≠ "java/lang/invoke/MethodHandle" ∧ y.cls ≠ "java/lang/invoke/VarHandle" ∧ (parseMethodDescriptor y.desc).map (fun d => d.parameters.length) = some n) (hR : (rm'.frames + 1 ≤ Rm.frames ∧ 8 + (nL' + 11) + rm'.locals ≤ Rm.locals) ∧ (rm'.cells = mc ∧ rm'.slots = ms))
    (he : ws[q0]? = some (b, .inr (ci, fs))) (hc : vwCl[ci]? = some qc) (hqc : qc.1 = C) (hn : As.length = n) (hst0 : st = As.reverse ++ .ref b :: rest) (hcat : (rest.map fun v => v.category).sum ≤ 8) (hdg : decode cc pc = .ok (.invokevirtual idx, 3)) (hf : cells + mc ≤ Rm.cells ∧ slots + ms ≤ Rm.slots) (hst : v.toList ++ rest = st')
    (kk : ∀ (H1 : Heap) (locs1 : List Loc), RW D ws2 H0 H1 locs1 → W p l e Rm s m args below meth c H1 locs1 (cells + mc) (slots + ms) Q (F0 m (pc + 3) ls st')) : W p l e Rm s m args below meth c H locs cells slots Q (F0 m pc ls st) := by
  have M' := M
  obtain ⟨hx, hb, hml, hown, hts, hK, -⟩ := M'
  subst hst0
  have hG : GoodIn lw_all (wsV own idx C y (ws_ y cc' nL' ret')) := good_in (fun w hw => by
    rcases List.mem_append.mp hw with h | h
    · simp only [List.mem_cons, List.not_mem_nil, or_false] at h
      rcases h with rfl | rfl | rfl | rfl
      · exact q1
      · exact q2
      · exact q3
      · exact q4
    · exact good_ws q5 w h)
  exact w_run X hfst (va_runV (As := As) (rest := rest) ⟨hx, hb, hml, hown, hts⟩ hM (cwV n hts hG rfl hR.2.1 hR.2.2 hd hR.1) ⟨PCw_blind, hqc ▸ va_recv hK X.1 hc he, w_pre M X⟩ rfl hn hsz rfl (lv_room hcat) hdg hf) hst kk
theorem w_callS {y : MethodName} {cc' : ByteArray} {nL' idx mc ms : Nat} {ret' : Option FieldType} {rm' : Room} {v : Option Value} {As st st' : List Value} (M : MC D ca p s m args meth c cc nL own) (X : RW D ws H0 H locs) (hfst : ws2.map Prod.fst = ws.map Prod.fst)
    (hM : Met l y (ws_ y cc' nL' ret') rm' (PCw D ca ws H.size As) (QMw D ws ws2 H.size v) mc ms (AL ws H.size)) (hsz : ls.size = nL) (n : Nat) (q1 : Cond.methodLink own idx y ∈ lw_all) (q2 : Cond.static y ∈ lw_all) (q4 : Cond.initialized y.cls ∈ lw_all) (q5 : Cond.code y cc' nL' ret' ∈ lw_all)
    (hd : y.cls ≠ "java/lang/invoke/MethodHandle" ∧ y.cls ≠ "java/lang/invoke/VarHandle" ∧ (parseMethodDescriptor y.desc).map (fun d => d.parameters.length) = some n) (hR : (rm'.frames + 1 ≤ Rm.frames ∧ 8 + (nL' + 11) + rm'.locals ≤ Rm.locals) ∧ (rm'.cells = mc ∧ rm'.slots = ms))
    (hn : As.length = n) (hst0 : st = As.reverse ++ rest) (hcat : (rest.map fun v => v.category).sum ≤ 8) (hdg : decode cc pc = .ok (.invokestatic idx, 3)) (hf : cells + mc ≤ Rm.cells ∧ slots + ms ≤ Rm.slots) (hst : v.toList ++ rest = st')
    (kk : ∀ (H1 : Heap) (locs1 : List Loc), RW D ws2 H0 H1 locs1 → W p l e Rm s m args below meth c H1 locs1 (cells + mc) (slots + ms) Q (F0 m (pc + 3) ls st')) : W p l e Rm s m args below meth c H locs cells slots Q (F0 m pc ls st) := by
  have M' := M
  obtain ⟨hx, hb, hml, hown, hts, hK, -⟩ := M'
  subst hst0
  have hG : GoodIn lw_all (va_wsS own idx y (ws_ y cc' nL' ret')) := good_in (fun w hw => by
    rcases List.mem_append.mp hw with h | h
    · simp only [List.mem_cons, List.not_mem_nil, or_false] at h
      rcases h with rfl | rfl | rfl
      · exact q1
      · exact q2
      · exact q4
    · exact good_ws q5 w h)
  exact w_run X hfst (va_runS (As := As) (rest := rest) ⟨hx, hb, hml, hown, hts⟩ hM (va_cwS n hts hG rfl hR.2.1 hR.2.2 hd hR.1) ⟨PCw_blind, w_pre M X⟩ rfl hn hsz rfl (lv_room hcat) hdg hf) hst kk
-- ends
theorem w_q {t : State} {v : Option Value} {sz : Nat} (X : RW D ws2 s.heap H locs) (hfst : ws2.map Prod.fst = ws.map Prod.fst) (hsz : s.heap.size = sz) (ht : t.heap = H) : QMw D ws ws2 sz v args s (.returned v) t := by
  have hf : AL ws2 s.heap.size = AL ws s.heap.size := AL_fst hfst
  subst hsz
  refine ⟨rfl, by rw [ht]; exact X.1, hf ▸ X.2.1, (hf ▸ X.2.2 : va_S (AL ws s.heap.size) s.heap H locs).F ht⟩
theorem w_l {sz : Nat} (X : RW D ws2 s.heap H locs) (hfst : ws2.map Prod.fst = ws.map Prod.fst) (hsz : s.heap.size = sz) : ∀ q ∈ locs, AL ws sz q.base := by
  have hf : AL ws2 s.heap.size = AL ws s.heap.size := AL_fst hfst
  subst hsz
  exact (hf ▸ X.2.2 : va_S (AL ws s.heap.size) s.heap H locs).2.2
theorem w_iret {v : Int32} {sz : Nat} (M : MC D ca p s m args meth c cc nL own) (hr : meth.sig.returnType = some .int) (X : RW D ws2 s.heap H locs) (hfst : ws2.map Prod.fst = ws.map Prod.fst) (hsz : s.heap.size = sz) (hdg : decode cc pc = .ok (.ireturn, 1)) : W p l e Rm s m args below meth c H locs cells slots (MQ below (QMw D ws ws2 sz (some (.int v))) args s cells slots (AL ws sz)) (F0 m pc ls [.int v]) := by
  obtain ⟨hx, hb, hml, hown, hts, hK, hlk⟩ := M
  exact W.iret hx hb hr (fun t ht _ => w_q X hfst hsz ht) (w_l X hfst hsz) hdg hlk
theorem w_zret {v : Int32} {sz : Nat} (M : MC D ca p s m args meth c cc nL own) (hr : meth.sig.returnType = some .boolean) (X : RW D ws2 s.heap H locs) (hfst : ws2.map Prod.fst = ws.map Prod.fst) (hsz : s.heap.size = sz) (hn : narrow .boolean (.int v) = .int v) (hdg : decode cc pc = .ok (.ireturn, 1)) : W p l e Rm s m args below meth c H locs cells slots (MQ below (QMw D ws ws2 sz (some (.int v))) args s cells slots (AL ws sz)) (F0 m pc ls [.int v]) := by
  obtain ⟨hx, hb, hml, hown, hts, hK, hlk⟩ := M
  exact W.zret hx hb hr hn (fun t ht _ => w_q X hfst hsz ht) (w_l X hfst hsz) hdg hlk
theorem w_vret {sz : Nat} (M : MC D ca p s m args meth c cc nL own) (hr : meth.sig.returnType = none) (X : RW D ws2 s.heap H locs) (hfst : ws2.map Prod.fst = ws.map Prod.fst) (hsz : s.heap.size = sz) (hdg : decode cc pc = .ok (.return_, 1)) : W p l e Rm s m args below meth c H locs cells slots (MQ below (QMw D ws ws2 sz none) args s cells slots (AL ws sz)) (F0 m pc ls []) := by
  obtain ⟨hx, hb, hml, hown, hts, hK, hlk⟩ := M
  exact W.vret hx hb hr (fun t ht _ => w_q X hfst hsz ht) (w_l X hfst hsz) hdg hlk
theorem w_lret {v : Int64} {sz : Nat} (M : MC D ca p s m args meth c cc nL own) (hr : meth.sig.returnType = some .long) (X : RW D ws2 s.heap H locs) (hfst : ws2.map Prod.fst = ws.map Prod.fst) (hsz : s.heap.size = sz) (hdg : decode cc pc = .ok (.lreturn, 1)) : W p l e Rm s m args below meth c H locs cells slots (MQ below (QMw D ws ws2 sz (some (.long v))) args s cells slots (AL ws sz)) (F0 m pc ls [.long v]) := by
  obtain ⟨hx, hb, hml, hown, hts, hK, hlk⟩ := M
  exact W.lret hx hb hr (fun t ht _ => w_q X hfst hsz ht) (w_l X hfst hsz) hdg hlk
theorem w_aret {b : Nat} {rt : FieldType} {sz : Nat} (M : MC D ca p s m args meth c cc nL own) (hr : meth.sig.returnType = some rt) (hrt : (∃ n, rt = .object n) ∨ ∃ t, rt = .array t) (X : RW D ws2 s.heap H locs) (hfst : ws2.map Prod.fst = ws.map Prod.fst) (hsz : s.heap.size = sz) (hdg : decode cc pc = .ok (.areturn, 1)) : W p l e Rm s m args below meth c H locs cells slots (MQ below (QMw D ws ws2 sz (some (.ref b))) args s cells slots (AL ws sz)) (F0 m pc ls [.ref b]) := by
  obtain ⟨hx, hb, hml, hown, hts, hK, hlk⟩ := M
  exact W.aret hx hb hr hrt (Or.inr ⟨_, rfl⟩) (fun t ht _ => w_q X hfst hsz ht) (w_l X hfst hsz) hdg hlk
-- branches over longs and over truth values
theorem w_blt {x y : Int64} {off : Int} {tgt : Nat} (M : MC D ca p s m args meth c cc nL own) (hd1 : decode cc pc = .ok (.lcmp, 1)) (hd2 : decode cc (pc + 1) = .ok (.ifCond .lt off, 3)) (ht : ((pc + 1 : Nat) : Int) + off = (tgt : Int)) (kt : x < y → W p l e Rm s m args below meth c H locs cells slots Q (F0 m tgt ls rest)) (kf : ¬ x < y → W p l e Rm s m args below meth c H locs cells slots Q (F0 m (pc + 1 + 3) ls rest)) : W p l e Rm s m args below meth c H locs cells slots Q (F0 m pc ls (.long y :: .long x :: rest)) :=
  W.lcmp M.1 M.2.1 hd1 (lv_if_lt M.1 M.2.1 hd2 ht (fun q => kt ((lg_cmp_lt x y).mp q)) (fun q => kf (fun z => q ((lg_cmp_lt x y).mpr z))))
theorem w_bge {x y : Int64} {off : Int} {tgt : Nat} (M : MC D ca p s m args meth c cc nL own) (hd1 : decode cc pc = .ok (.lcmp, 1)) (hd2 : decode cc (pc + 1) = .ok (.ifCond .ge off, 3)) (ht : ((pc + 1 : Nat) : Int) + off = (tgt : Int)) (kt : y ≤ x → W p l e Rm s m args below meth c H locs cells slots Q (F0 m tgt ls rest)) (kf : ¬ y ≤ x → W p l e Rm s m args below meth c H locs cells slots Q (F0 m (pc + 1 + 3) ls rest)) : W p l e Rm s m args below meth c H locs cells slots Q (F0 m pc ls (.long y :: .long x :: rest)) :=
  W.lcmp M.1 M.2.1 hd1 (lv_if_ge M.1 M.2.1 hd2 ht (fun q => kt ((lg_cmp_ge x y).mp q)) (fun q => kf (fun z => q ((lg_cmp_ge x y).mpr z))))
theorem w_bgt {x y : Int64} {off : Int} {tgt : Nat} (M : MC D ca p s m args meth c cc nL own) (hd1 : decode cc pc = .ok (.lcmp, 1)) (hd2 : decode cc (pc + 1) = .ok (.ifCond .gt off, 3)) (ht : ((pc + 1 : Nat) : Int) + off = (tgt : Int)) (kt : y < x → W p l e Rm s m args below meth c H locs cells slots Q (F0 m tgt ls rest)) (kf : ¬ y < x → W p l e Rm s m args below meth c H locs cells slots Q (F0 m (pc + 1 + 3) ls rest)) : W p l e Rm s m args below meth c H locs cells slots Q (F0 m pc ls (.long y :: .long x :: rest)) :=
  W.lcmp M.1 M.2.1 hd1 (lv_if_gt M.1 M.2.1 hd2 ht (fun q => kt ((lg_cmp_gt x y).mp q)) (fun q => kf (fun z => q ((lg_cmp_gt x y).mpr z))))
theorem w_ble {x y : Int64} {off : Int} {tgt : Nat} (M : MC D ca p s m args meth c cc nL own) (hd1 : decode cc pc = .ok (.lcmp, 1)) (hd2 : decode cc (pc + 1) = .ok (.ifCond .le off, 3)) (ht : ((pc + 1 : Nat) : Int) + off = (tgt : Int)) (kt : x ≤ y → W p l e Rm s m args below meth c H locs cells slots Q (F0 m tgt ls rest)) (kf : ¬ x ≤ y → W p l e Rm s m args below meth c H locs cells slots Q (F0 m (pc + 1 + 3) ls rest)) : W p l e Rm s m args below meth c H locs cells slots Q (F0 m pc ls (.long y :: .long x :: rest)) :=
  W.lcmp M.1 M.2.1 hd1 (lv_if_le M.1 M.2.1 hd2 ht (fun q => kt ((lg_cmp_le x y).mp q)) (fun q => kf (fun z => q ((lg_cmp_le x y).mpr z))))
theorem w_beq {x y : Int64} {off : Int} {tgt : Nat} (M : MC D ca p s m args meth c cc nL own) (hd1 : decode cc pc = .ok (.lcmp, 1)) (hd2 : decode cc (pc + 1) = .ok (.ifCond .eq off, 3)) (ht : ((pc + 1 : Nat) : Int) + off = (tgt : Int)) (kt : x = y → W p l e Rm s m args below meth c H locs cells slots Q (F0 m tgt ls rest)) (kf : ¬ x = y → W p l e Rm s m args below meth c H locs cells slots Q (F0 m (pc + 1 + 3) ls rest)) : W p l e Rm s m args below meth c H locs cells slots Q (F0 m pc ls (.long y :: .long x :: rest)) :=
  W.lcmp M.1 M.2.1 hd1 (lv_if_eq M.1 M.2.1 hd2 ht (fun q => kt ((lg_cmp_eq x y).mp q)) (fun q => kf (fun z => q ((lg_cmp_eq x y).mpr z))))
theorem w_bne {x y : Int64} {off : Int} {tgt : Nat} (M : MC D ca p s m args meth c cc nL own) (hd1 : decode cc pc = .ok (.lcmp, 1)) (hd2 : decode cc (pc + 1) = .ok (.ifCond .ne off, 3)) (ht : ((pc + 1 : Nat) : Int) + off = (tgt : Int)) (kt : ¬ x = y → W p l e Rm s m args below meth c H locs cells slots Q (F0 m tgt ls rest)) (kf : x = y → W p l e Rm s m args below meth c H locs cells slots Q (F0 m (pc + 1 + 3) ls rest)) : W p l e Rm s m args below meth c H locs cells slots Q (F0 m pc ls (.long y :: .long x :: rest)) :=
  W.lcmp M.1 M.2.1 hd1 (lv_if_ne M.1 M.2.1 hd2 ht (fun q => kt (fun z => q ((lg_cmp_eq x y).mpr z))) (fun q => kf ((lg_cmp_eq x y).mp q)))
theorem w_zeq {b : Bool} {off : Int} {tgt : Nat} (M : MC D ca p s m args meth c cc nL own) (hdg : decode cc pc = .ok (.ifCond .eq off, 3)) (ht : (pc : Int) + off = (tgt : Int)) (kt : ¬ b = true → W p l e Rm s m args below meth c H locs cells slots Q (F0 m tgt ls rest)) (kf : b = true → W p l e Rm s m args below meth c H locs cells slots Q (F0 m (pc + 3) ls rest)) : W p l e Rm s m args below meth c H locs cells slots Q (F0 m pc ls (.int (b2i b) :: rest)) :=
  lv_if_eq M.1 M.2.1 hdg ht (fun q => kt (b2i_0.mp q)) (fun q => kf (by cases b; exact absurd (by rfl) q; rfl))
theorem w_zne {b : Bool} {off : Int} {tgt : Nat} (M : MC D ca p s m args meth c cc nL own) (hdg : decode cc pc = .ok (.ifCond .ne off, 3)) (ht : (pc : Int) + off = (tgt : Int)) (kt : b = true → W p l e Rm s m args below meth c H locs cells slots Q (F0 m tgt ls rest)) (kf : ¬ b = true → W p l e Rm s m args below meth c H locs cells slots Q (F0 m (pc + 3) ls rest)) : W p l e Rm s m args below meth c H locs cells slots Q (F0 m pc ls (.int (b2i b) :: rest)) :=
  lv_if_ne M.1 M.2.1 hdg ht (fun q => kt (by cases b; exact absurd (by rfl) q; rfl)) (fun q => kf (b2i_0.mp q))
theorem w_int {x y : Int32} (h : y = x) (k : W p l e Rm s m args below meth c H locs cells slots Q (F0 m pc ls (.int y :: rest))) : W p l e Rm s m args below meth c H locs cells slots Q (F0 m pc ls (.int x :: rest)) := by subst h; exact k
theorem w_long {x y : Int64} (h : y = x) (k : W p l e Rm s m args below meth c H locs cells slots Q (F0 m pc ls (.long y :: rest))) : W p l e Rm s m args below meth c H locs cells slots Q (F0 m pc ls (.long x :: rest)) := by subst h; exact k
end RWS
