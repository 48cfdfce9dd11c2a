/-! NEW: cells that a method makes -/
theorem al_app {ws zs : va_W} {sz : Nat} (h : ∀ q ∈ zs, AL ws sz q.1) : AL (ws ++ zs) sz = AL ws sz := by
  funext q
  apply propext
  unfold AL
  rw [List.map_append, List.mem_append]
  constructor
  · rintro ((h1 | h1) | h1)
    · exact Or.inl h1
    · obtain ⟨x, hx, rfl⟩ := List.mem_map.mp h1
      exact h x hx
    · exact Or.inr h1
  · rintro (h1 | h1)
    · exact Or.inl (Or.inl h1)
    · exact Or.inr h1
theorem RW.drop {D : va_G} {ws zs : va_W} {H0 H : Heap} {locs : List Loc} (X : RW D (ws ++ zs) H0 H locs) (e : AL (ws ++ zs) H0.size = AL ws H0.size) : RW D ws H0 H locs := by
  have hk : ∀ (k : Nat) (q : Nat × va_E), ws[k]? = some q → (ws ++ zs)[k]? = some q := fun k q hk => by
    rw [List.getElem?_append_left (List.getElem?_eq_some_iff.mp hk).1]; exact hk
  refine ⟨fun k q h => X.1 k q (hk k q h), ⟨fun i j p q h1 h2 h3 => X.2.1.1 i j p q (hk _ _ h1) (hk _ _ h2) h3, fun k q h => ?_⟩, ?_⟩
  · rw [← e]; exact X.2.1.2 k q (hk k q h)
  · rw [← e]; exact X.2.2
theorem met_ofN {l : Launch} {y : MethodName} {cc : ByteArray} {nL : Nat} {ret : Option FieldType} {rm : Room} {D : va_G} {ca : Nat → ClassId} {ws : va_W} {sz : Nat} {av : List Value} {Qc : Array Value → State → Outcome → State → Prop} {mc ms : Nat} (hy : plainFor y = true) (hav : (lg_sl av).length ≤ nL)
    (body : ∀ (p : Program) (e : Env) (s : State) (m : MethodId) (args : Array Value) (below : List Frame) (meth : Method) (c : Code), MC D ca p s m args meth c cc nL y.cls → meth.name = y.name → meth.sig.returnType = ret → RW D ws s.heap s.heap [] → s.heap.size = sz → ∀ ls : Array Slot, lv_has ls nL (lv_args 0 av) →
      W p l e rm s m args below meth c s.heap [] 0 0 (MQ below Qc args s mc ms (AL ws sz)) (F0 m 0 ls [])) : Met l y (ws_ y cc nL ret) rm (PCw D ca ws sz av) Qc mc ms (AL ws sz) := by
  refine Met_ofWF (cc := cc) (maxL := nL) (ret := ret) hy rfl ?_
  intro p e s m args below meth c s₁ B hml hv
  obtain ⟨rfl, hsz, hP, hK, hD0⟩ := hv
  have hts := atoms_spec (ws := ws_ y cc nL ret) B.pre
  have hD : va_D (AL ws s.heap.size) ws := hD0.weaken (fun k q hk _ => Or.inl (List.mem_map.mpr ⟨q, List.mem_of_getElem? hk, rfl⟩))
  have hl := lv_entry av (n := nL) hav
  rw [lg_entry_eq]
  exact body p e s m _ below meth c ⟨B.exec, B.bytes, hml, findClass_of_methodNamed B.named, fun w h => hts w (List.mem_cons_of_mem _ h), hK, B.notSynchronized⟩ (name_of_methodNamed B.named B.method).1 B.returns ⟨hP, hD, va_S.rf⟩ hsz _ hl
section NEWS
variable {p : Program} {l : Launch} {e : Env} {Rm : Room} {s : State} {m : MethodId} {args : Array Value} {below : List Frame} {meth : Method} {c : Code} {H0 H : Heap} {locs : List Loc} {cells slots : Nat} {Q : State → Prop}
variable {cc : ByteArray} {nL : Nat} {own : String} {z : ZG} {D : va_G} {ca : Nat → ClassId} {ws ws0 ws2 : va_W} {pc : Nat} {ls : Array Slot} {rest : List Value} {a idx : Nat}
theorem w_new (M : MC D ca p s m args meth c cc nL own) (X : RW D ws H0 H locs) {C : String} {T : u_T} {N ci idx : Nat} (hin : ∀ w ∈ u_ws C T N, w ∈ lw_all) (ty : Nat → FieldType) (hty : ∀ k, k < N → parseFieldDescriptor (T k).2.2.1 = some (ty k)) (hcl : Cond.classLink own idx C ∈ lw_all) (hinst : Cond.instantiable C N ∈ lw_all) (hini : Cond.initialized C ∈ lw_all) (hc : vwCl[ci]? = some (C, T, N)) {fs : List Value} (hfs : ∀ j, j < N → defaultValue (ty j) = vp_V fs j) (hcells : cells + 1 ≤ Rm.cells) (hslots : slots + N ≤ Rm.slots) (hdg : decode cc pc = .ok (.new idx, 3))
    (kk : ∀ (q : Nat) (H1 : Heap), AL (ws ++ [(q, .inr (ci, fs))]) H0.size = AL ws H0.size → RW D (ws ++ [(q, .inr (ci, fs))]) H0 H1 locs → W p l e Rm s m args below meth c H1 locs (cells + 1) (slots + N) Q (F0 m (pc + 3) ls (.ref q :: rest))) : W p l e Rm s m args below meth c H locs cells slots Q (F0 m pc ls rest) := by
  obtain ⟨hx, hb, hml, hown, hts, hK, -⟩ := M
  refine va_new hx hb hts hin ty hty hown (hts _ hcl) (hts _ hinst) (hts _ hini) hK X.1 X.2.1 X.2.2 (fun q h => Or.inr h) hc hfs hcells hslots hdg (fun q H1 h1 h2 h3 => ?_)
  have e : AL (ws ++ [(q, .inr (ci, fs))]) H0.size = AL ws H0.size := al_app (fun x hxx => by
    rw [List.mem_singleton] at hxx
    subst hxx
    exact h2.2 ws.length _ (by simp))
  exact kk q H1 e ⟨h1, by rw [e]; exact h2, by rw [e]; exact h3⟩
theorem w_putF (M : MC D ca p s m args meth c cc nL own) (hname : meth.name = "<init>") (X : RW D ws H0 H locs) {T : u_T} {N ci idx : Nat} {fs : List Value} {v : Value} {ty : FieldType} (hin : ∀ w ∈ u_ws own T N, w ∈ lw_all) (ty0 : Nat → FieldType) (hty : ∀ k, k < N → parseFieldDescriptor (T k).2.2.1 = some (ty0 k)) (hnm : ∀ a, a < N → ∀ b, b < N → a ≠ b → (T a).2.1 ≠ (T b).2.1) (hc : vwCl[ci]? = some (own, T, N)) (q0 : Nat) (he : ws[q0]? = some (a, .inr (ci, fs))) (k : Nat) (hk : k < N) (hl : Cond.fieldLink own idx (T k).1 (T k).2.1 (T k).2.2.1 ∈ lw_all) (hfin : (T k).2.2.2 = true) (hdecl : (T k).1 = own) (hd : parseFieldDescriptor (T k).2.2.1 = some ty) (hn : narrow ty v = v) (hfit : fits ty v = true) (hlen : k < fs.length) (hs : ws.set q0 (a, .inr (ci, fs.set k v)) = ws2) (hdg : decode cc pc = .ok (.putfield idx, 3))
    (kk : ∀ (H1 : Heap) (locs1 : List Loc), RW D ws2 H0 H1 locs1 → W p l e Rm s m args below meth c H1 locs1 cells slots Q (F0 m (pc + 3) ls rest)) : W p l e Rm s m args below meth c H locs cells slots Q (F0 m pc ls (v :: .ref a :: rest)) := by
  obtain ⟨hx, hb, hml, hown, hts, hK, -⟩ := M
  have hf : AL ws H0.size = AL ws2 H0.size := AL_fst (by rw [← hs, fst_set he])
  refine va_putF hx hb hts hin ty0 hty hnm hown hK X.1 X.2.1 X.2.2 q0 he hc k hk (hts _ hl) (fun _ h => h) hfin hname hdecl hd hn hfit hlen hdg (fun H1 locs1 h1 h2 h3 => kk H1 locs1 ⟨?_, ?_, ?_⟩)
  · rw [← hs]; exact h1
  · rw [← hs] at hf ⊢; rw [← hf]; exact h2
  · rw [← hf]; exact h3
theorem w_oinit (M : MC D ca p s m args meth c cc nL own) (hsz : ls.size = nL) (q1 : Cond.methodLink own idx Lib.objectInit ∈ lw_all) (q2 : Cond.instanceMethod Lib.objectInit ∈ lw_all) (q3 : Cond.code Lib.objectInit ⟨#[0xb1]⟩ 1 none ∈ lw_all) (hfr : 1 ≤ Rm.frames) (hlo : (rest.map fun v => v.category).sum + 12 ≤ Rm.locals) (hdg : decode cc pc = .ok (.invokespecial idx, 3))
    (kk : W p l e Rm s m args below meth c H locs cells slots Q (F0 m (pc + 3) ls rest)) : W p l e Rm s m args below meth c H locs cells slots Q (F0 m pc ls (.ref a :: rest)) := by
  obtain ⟨hx, hb, hml, hown, hts, hK, -⟩ := M
  exact W.objInit hx hb hown (hts _ q1) (hts _ q2) (hts _ q3) rfl (hsz.trans hml.symm) rfl hdg hfr (by show 2 * 0 + _ + 12 ≤ _; omega) kk
theorem w_callI {y : MethodName} {cc' : ByteArray} {nL' b mc ms : Nat} {rm' : Room} {As st : List Value} (M : MC D ca p s m args meth c cc nL own) (X : RW D ws H0 H locs) (hfst : ws2.map Prod.fst = ws.map Prod.fst)
    (hM : Met l y (ws_ y cc' nL' none) rm' (PCw D ca ws H.size (.ref b :: As)) (QMw D ws ws2 H.size none) mc ms (AL ws H.size)) (hsz : ls.size = nL) (n : Nat) (q1 : Cond.methodLink own idx y ∈ lw_all) (q2 : Cond.instanceMethod y ∈ lw_all) (q4 : Cond.initialized y.cls ∈ lw_all) (q5 : Cond.code y cc' nL' none ∈ lw_all) (hn0 : y.name = "<init>")
    (hd : y.cls ≠ "java/lang/invoke/MethodHandle" ∧ y.cls ≠ "java/lang/invoke/VarHandle" ∧ (parseMethodDescriptor y.desc).map (fun d => d.parameters.length) = some n) (hR : (rm'.frames + 1 ≤ Rm.frames ∧ 8 + (nL' + 11) + rm'.locals ≤ Rm.locals) ∧ (rm'.cells = mc ∧ rm'.slots = ms))
    (hn : As.length = n) (hst0 : st = As.reverse ++ .ref b :: rest) (hcat : (rest.map fun v => v.category).sum ≤ 8) (hdg : decode cc pc = .ok (.invokespecial idx, 3)) (hf : cells + mc ≤ Rm.cells ∧ slots + ms ≤ Rm.slots)
    (kk : ∀ (H1 : Heap) (locs1 : List Loc), RW D ws2 H0 H1 locs1 → W p l e Rm s m args below meth c H1 locs1 (cells + mc) (slots + ms) Q (F0 m (pc + 3) ls rest)) : W p l e Rm s m args below meth c H locs cells slots Q (F0 m pc ls st) := by
  have M' := M
  obtain ⟨hx, hb, hml, hown, hts, hK, -⟩ := M'
  subst hst0
  exact w_run X hfst (va_runI (As := As) (rest := rest) ⟨hx, hb, hml, hown, hts⟩ hM (cwI n hts (good_in (good_ws q5)) rfl hR.2.1 hR.2.2 (hts _ q4) (hts _ q1) (hts _ q2) hn0 hd hR.1) ⟨PCw_blind, w_pre M X⟩ rfl hn hsz rfl (lv_room hcat) hdg hf) rfl kk
theorem z_callVN {y : MethodName} {cc' : ByteArray} {nL' b : Nat} {ret' : Option FieldType} {rm' : Room} {C host : String} {v : Option Value} {As st st' : List Value} (M : MC D ca p s m args meth c cc nL own) (hZ : ZF z (AL ws0 s.heap.size) s s.heap) (X : RW D ws s.heap H locs) (hf0 : ws.map Prod.fst = ws0.map Prod.fst) (hfst : ws2.map Prod.fst = ws.map Prod.fst)
    (hM : Met l y (ws_ y cc' nL' ret') rm' (PCz z D ca ws H.size (.ref b :: As)) (QMw D ws ws2 H.size v) 0 0 (AL ws H.size)) (hsz : ls.size = nL) (n : Nat) (q1 : va_Nw (.methodLinkNest own idx y host) s) (q2 : Cond.instanceMethod y ∈ lw_all) (q3 : Cond.selects C y y ∈ lw_all) (q4 : Cond.initialized y.cls ∈ lw_all) (q5 : Cond.code y cc' nL' ret' ∈ lw_all)
    (hd : y.cls ≠ "java/lang/invoke/MethodHandle" ∧ y.cls ≠ "java/lang/invoke/VarHandle" ∧ (parseMethodDescriptor y.desc).map (fun d => d.parameters.length) = some n) (hR : (rm'.frames + 1 ≤ Rm.frames ∧ 8 + (nL' + 11) + rm'.locals ≤ Rm.locals) ∧ (rm'.cells = 0 ∧ rm'.slots = 0))
    (hrecv : (∃ cell : Cell, H[b]? = some cell ∧ cell.vm.isStatics = false ∧ s.vm.findClass C = some cell.cls)) (hn : As.length = n) (hst0 : st = As.reverse ++ .ref b :: rest) (hcat : (rest.map fun v => v.category).sum ≤ 8) (hdg : decode cc pc = .ok (.invokevirtual idx, 3)) (hf : cells ≤ Rm.cells ∧ slots ≤ Rm.slots) (hst : v.toList ++ rest = st')
    (kk : ∀ (H1 : Heap) (locs1 : List Loc), RW D ws2 s.heap H1 locs1 → W p l e Rm s m args below meth c H1 locs1 cells slots Q (F0 m (pc + 3) ls st')) : W p l e Rm s m args below meth c H locs cells slots Q (F0 m pc ls st) := by
  have M' := M
  obtain ⟨hx, hb, hml, hown, hts, hK, -⟩ := M'
  subst hst0
  exact w_run X hfst (va_runVN (As := As) (rest := rest) (C := C) ⟨hx, hb, hml, hown, hts⟩ hM ⟨va_cnB n hts (good_in (good_ws q5)) rfl hR.2.1 hR.2.2 q1 (hts _ q4) hd hR.1, hts _ q2, hts _ q3⟩ ⟨PCz_blind, hrecv, z_pre M hZ X hf0⟩ rfl hn hsz rfl (lv_room hcat) hdg hf) hst kk
theorem z_newg {ar : Nat → Nat → Nat} {ag : Nat → Nat} {P : RowsS} {G : GlbS} {xs : va_W} (M : MC D ca p s m args meth c cc nL own) (hZ : ZF z (AL ws0 s.heap.size) s s.heap) (X : RW D (wC ar ag ca P G ++ xs) s.heap H locs) (hf0 : (wC ar ag ca P G ++ xs).map Prod.fst = ws0.map Prod.fst) {C : String} {T : u_T} {N ci idx : Nat} (hin : ∀ w ∈ u_ws C T N, w ∈ lw_all) (ty : Nat → FieldType) (hty : ∀ k, k < N → parseFieldDescriptor (T k).2.2.1 = some (ty k)) (hcl : Cond.classLink own idx C ∈ lw_all) (hinst : Cond.instantiable C N ∈ lw_all) (hini : Cond.initialized C ∈ lw_all) (hc : vwCl[ci]? = some (C, T, N)) {fs : List Value} (hfs : ∀ j, j < N → defaultValue (ty j) = vp_V fs j) (hcells : cells + 1 ≤ Rm.cells) (hslots : slots + N ≤ Rm.slots) (hdg : decode cc pc = .ok (.new idx, 3))
    (kk : ∀ (q : Nat) (H1 : Heap), (∀ (P : RowsS) (G : GlbS) (fs' : List Value) (H : Heap) (locs : List Loc), RW D (wC ar ag ca P G ++ (xs ++ [(q, .inr (ci, fs'))])) s.heap H locs → RW D (wC ar ag ca P G ++ xs) s.heap H locs) → (∀ fs' : List Value, ZF z (AL (wC ar ag ca P G ++ (xs ++ [(q, .inr (ci, fs'))])) s.heap.size) s s.heap) → RW D (wC ar ag ca P G ++ (xs ++ [(q, .inr (ci, fs))])) s.heap H1 locs → W p l e Rm s m args below meth c H1 locs (cells + 1) (slots + N) Q (F0 m (pc + 3) ls (.ref q :: rest))) : W p l e Rm s m args below meth c H locs cells slots Q (F0 m pc ls rest) := by
  refine w_new M X hin ty hty hcl hinst hini hc hfs hcells hslots hdg (fun q H1 e X1 => ?_)
  have e2 : ∀ (P' : RowsS) (G' : GlbS) (fs' : List Value), AL (wC ar ag ca P' G' ++ (xs ++ [(q, .inr (ci, fs'))])) s.heap.size = AL (wC ar ag ca P G ++ xs) s.heap.size := fun P' G' fs' => by
    rw [← e, List.append_assoc]
    exact AL_fst (by rw [List.map_append, List.map_append, wC_fst (P := P') (P' := P) (G := G') (G' := G)]; simp)
  refine kk q H1 (fun P' G' fs' H' locs' X' => ?_) (fun fs' => ?_) (by rw [← List.append_assoc]; exact X1)
  · rw [← List.append_assoc] at X'
    refine X'.drop ?_
    rw [List.append_assoc, e2]
    exact AL_fst wC_fstx
  · rw [e2, AL_fst hf0]; exact hZ
end NEWS
theorem ctor_fst {ar : Nat → Nat → Nat} {ag : Nat → Nat} {ca : Nat → ClassId} {P : RowsS} {G : GlbS} {xs : va_W} {gq ci : Nat} {fs fs' : List Value} : (wC ar ag ca P G ++ (xs ++ ([(gq, .inr (ci, fs'))] : va_W))).map Prod.fst = (wC ar ag ca P G ++ (xs ++ ([(gq, .inr (ci, fs))] : va_W))).map Prod.fst := by
  simp only [List.map_append, List.map_cons, List.map_nil]
theorem ctor_at {xs : va_W} {q : Nat × va_E} : (xs ++ [q])[xs.length]? = some q := by simp
theorem ctor_atw {ar : Nat → Nat → Nat} {ag : Nat → Nat} {ca : Nat → ClassId} {P : RowsS} {G : GlbS} {xs : va_W} {q : Nat × va_E} : (wC ar ag ca P G ++ (xs ++ [q]))[243 + xs.length]? = some q := pl_xs.trans ctor_at
theorem ctor_set {ar : Nat → Nat → Nat} {ag : Nat → Nat} {ca : Nat → ClassId} {P : RowsS} {G : GlbS} {xs : va_W} {q q' : Nat × va_E} : (wC ar ag ca P G ++ (xs ++ [q])).set (243 + xs.length) q' = wC ar ag ca P G ++ (xs ++ [q']) := by
  rw [List.set_append_right _ _ (by rw [wC_len]; omega), List.set_append_right _ _ (by rw [wC_len]; omega), wC_len]
  congr 2
  have : 243 + xs.length - 243 - xs.length = 0 := by omega
  rw [this]; rfl
section DRET
variable {p : Program} {l : Launch} {e : Env} {Rm : Room} {s : State} {m : MethodId} {args : Array Value} {below : List Frame} {meth : Method} {c : Code} {H : Heap} {locs : List Loc} {cells slots : Nat}
variable {cc : ByteArray} {nL : Nat} {own : String} {D : va_G} {ca : Nat → ClassId} {ws ws2 : va_W} {pc : Nat} {ls : Array Slot}
theorem w_dret {v : UInt64} {sz : Nat} (M : MC D ca p s m args meth c cc nL own) (hr : meth.sig.returnType = some .double) (X : RW D ws2 s.heap H locs) (hfst : ws2.map Prod.fst = ws.map Prod.fst) (hsz : s.heap.size = sz) (hdg : decode cc pc = .ok (.dreturn, 1)) : W p l e Rm s m args below meth c H locs cells slots (MQ below (QMw D ws ws2 sz (some (.double v))) args s cells slots (AL ws sz)) (F0 m pc ls [.double v]) := by
  obtain ⟨hx, hb, hml, hown, hts, hK, hlk⟩ := M
  exact W.dret hx hb hr (fun t ht _ => w_q X hfst hsz ht) (w_l X hfst hsz) hdg hlk
theorem w_fret {v : UInt32} {sz : Nat} (M : MC D ca p s m args meth c cc nL own) (hr : meth.sig.returnType = some .float) (X : RW D ws2 s.heap H locs) (hfst : ws2.map Prod.fst = ws.map Prod.fst) (hsz : s.heap.size = sz) (hdg : decode cc pc = .ok (.freturn, 1)) : W p l e Rm s m args below meth c H locs cells slots (MQ below (QMw D ws ws2 sz (some (.float v))) args s cells slots (AL ws sz)) (F0 m pc ls [.float v]) := by
  obtain ⟨hx, hb, hml, hown, hts, hK, hlk⟩ := M
  exact W.fret hx hb hr (fun t ht _ => w_q X hfst hsz ht) (w_l X hfst hsz) hdg hlk
end DRET
