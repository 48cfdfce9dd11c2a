/-! THR: methods that throw -/
def eX (k : Nat) : String := if k = 1 then eN else eI
abbrev xnames : List String := ["java/lang/RuntimeException", "java/lang/Exception"]
abbrev xR : String := "java/lang/RuntimeException"
abbrev xE : String := "java/lang/Exception"
/-- the last words of a throw of NoSuchElementException; its constructor has a place of its own for the link upwards -/
def xwT : List Cond := [.methodLink RX7 118 (Bundle.initS eN), .instantiable eN 6, .castable eN eN, .selects eN Bundle.tFill0 Bundle.tFill0, .selects eN Bundle.tFill Bundle.tFill,
  .lays eN Bundle.tN "cause" "Ljava/lang/Throwable;", .lays eN Bundle.tN "stackTrace" Bundle.steD, .lays eN Bundle.tN "suppressedExceptions" Bundle.listD, .lays eN Bundle.tN "detailMessage" "Ljava/lang/String;",
  .isRef (.static Bundle.tN "UNASSIGNED_STACK" Bundle.steD), .isRef (.static Bundle.tN "SUPPRESSED_SENTINEL" Bundle.listD),
  .fieldLink Bundle.tN 198 Bundle.tN "backtrace" "Ljava/lang/Object;", .lays Bundle.tN Bundle.tN "backtrace" "Ljava/lang/Object;", .lays eN Bundle.tN "backtrace" "Ljava/lang/Object;"]
def xwN : List Cond := Bundle.throwableAtoms ++ (Bundle.throwableSAtoms ++ (Bundle.passSAtoms eN xR 13 prog_32_method_4_code ++ (Bundle.chainSAtoms xR [xE] ++ xwT)))
theorem xat_N : ∀ w ∈ xwN.filter vx_no, w ∈ zW ∨ w ∈ lw_all := by decide +kernel
theorem xat_I : ∀ w ∈ vx_atS RX7 314 eI xnames, w ∈ zW ∨ w ∈ lw_all := by decide +kernel
theorem xot_N : ∀ w ∈ Cond.classLink RX7 114 eN :: Cond.initialized eN :: xwN.filter vx_no, vx_ot w = true := by decide +kernel
theorem xot_I : ∀ w ∈ Cond.classLink RX7 310 eI :: Cond.initialized eI :: vx_atS RX7 314 eI xnames, vx_ot w = true := by decide +kernel
theorem xnm_fit : ∀ n ∈ xnames, Bundle.fit n = true := by decide +kernel
theorem xe_fit : Bundle.fit eN = true ∧ Bundle.fit eI = true := by decide +kernel
def XCw (D : va_G) (ws : va_W) (sz : Nat) (E0 : String) : String → State → State → Prop := fun E st t => E = E0 ∧ va_P D vwCl ws t.heap ∧ va_F (AL ws sz) st t
abbrev QNo : Array Value → State → Outcome → State → Prop := fun _ _ _ _ => False
theorem met_x {l : Launch} {y : MethodName} {cc : ByteArray} {nL : Nat} {ret : Option FieldType} {rm : Room} {z : ZG} {D : va_G} {ca : Nat → ClassId} {ws : va_W} {sz : Nat} {av : List Value} {E : String} (hy : plainName y.cls = true) (hav : (lg_sl av).length ≤ nL)
    (body : ∀ (p : Program) (e : Env) (s : State) (m : MethodId) (args : Array Value) (below : List Frame) (meth : Method) (c : Code), MC D ca p s m args meth c cc nL y.cls → (∀ x ∈ c.exceptionTable.toList, False) → ZF z (AL ws s.heap.size) s s.heap → RW D ws s.heap s.heap [] → s.heap.size = sz → ∀ ls : Array Slot, lv_has ls nL (lv_args 0 av) →
      W p l e rm s m args below meth c s.heap [] 0 0 (vx_MQ below QNo (XCw D ws sz E) args s 1 6 (AL ws sz)) (F0 m 0 ls [])) : vx_Met l y (ws_ y cc nL ret) rm (PCz z D ca ws sz av) QNo (XCw D ws sz E) 1 6 (AL ws sz) := by
  refine vx_ofW (cc := cc) (maxL := nL) (ret := ret) hy rfl ?_
  intro p e s m args below meth c s₁ B hml hex hv
  obtain ⟨⟨rfl, hsz, hP, hK, hD0⟩, hZ⟩ := hv
  have hts := atoms_spec (ws := ws_ y cc nL ret) B.pre
  have hD : va_D (AL ws s.heap.size) ws := hD0.weaken (fun k q hk _ => Or.inl (List.mem_map.mpr ⟨q, List.mem_of_getElem? hk, rfl⟩))
  have hl := lv_entry av (n := nL) hav
  rw [lg_entry_eq]
  exact body p e s m _ below meth c ⟨B.exec, B.bytes, hml, findClass_of_methodNamed B.named, fun w h => hts w (List.mem_cons_of_mem _ h), hK, B.notSynchronized⟩ hex (by rw [hsz]; exact hZ) ⟨hP, hD, va_S.rf⟩ hsz _ hl
theorem zW_tab : ∀ w ∈ zW, w.onTables = true := by decide +kernel
section XNC
variable {p : Program} {l : Launch} {e : Env} {R : Room} {s : State} {m₀ : MethodId} {args : Array Value} {below : List Frame} {meth : Method} {c : Code} {W : State} {locs : List Loc} {cells slots : Nat}
set_option maxHeartbeats 4000000 in
theorem xn_ctor (X : Stand p l e R s m₀ args below meth c W locs cells slots) (hexec : p.tables.exec = Jvm.exec) (htr : e.platform.stackTraces = false) (hown : s.vm.findClass RX7 = some m₀.cls) (h : ∀ w ∈ xwN, w.before args s = true)
    (hlocs : ∀ x ∈ locs, ∀ cell, s.heap[x.base]? = some cell → cell.vm.isStatics = false) {a : Addr} {cX : ClassId} {kX : Class} (hfX : s.vm.findClass eN = some cX) (hkX : s.vm.classes[cX]? = some kX) (hcell : W.heap[a]? = some (freshCell cX kX)) (hnew : s.heap.size ≤ a)
    {msg : Value} (hmsg : msg.isRef = true) {g : JFrame} (hg : g.method = m₀) (hsize : g.locals.size = c.maxLocals) (hlocked : g.locked = none) (hentered : g.entered = []) {rest : List Value} (hstack : g.stack = msg :: .ref a :: .ref a :: rest)
    (hd6 : decode c.code g.pc = .ok (.invokespecial 118, 3)) (hd9 : decode c.code (g.pc + 3) = .ok (.athrow, 1)) (hout : ∀ x ∈ c.exceptionTable.toList, covers x (g.pc + 3) = false) (hRf : 5 < R.frames) (hRl : 2 * g.monitorRoom + ((Value.ref a :: rest).map fun v => v.category).sum + 81 ≤ R.locals) (hlocks : meth.locks = false) :
    ∃ U : State, Steps p.tables e below (W.setTop g) U ∧ U.status = .running ∧ Ended U below (.threw a) ∧ s.WarmedH U.vm ∧ s.sameButNew ({ U with vm := s.vm } : State) locs cells slots ∧ ∃ ce, U.heap[a]? = some ce ∧ ce.cls = cX ∧ ce.vm = .none := by
  have hplat := X.admits.platform
  have hpl : e.platform.magicAccessors = ({} : Platform).magicAccessors := by rw [hplat]
  have wT : ∀ x ∈ Bundle.throwableAtoms, x.before args s = true := fun x hx => h x (List.mem_append_left _ hx)
  have wS : ∀ x ∈ Bundle.throwableSAtoms, x.before args s = true := fun x hx => h x (List.mem_append_right _ (List.mem_append_left _ hx))
  have wP : ∀ x ∈ Bundle.passSAtoms eN xR 13 prog_32_method_4_code, x.before args s = true := fun x hx => h x (List.mem_append_right _ (List.mem_append_right _ (List.mem_append_left _ hx)))
  have wC : ∀ x ∈ Bundle.chainSAtoms xR [xE], x.before args s = true := fun x hx => h x (List.mem_append_right _ (List.mem_append_right _ (List.mem_append_right _ (List.mem_append_left _ hx))))
  have wL : ∀ x ∈ xwT, x.before args s = true := fun x hx => h x (List.mem_append_right _ (List.mem_append_right _ (List.mem_append_right _ (List.mem_append_right _ hx))))
  have at_ : ∀ (i : Nat) (x : Cond), xwT[i]? = some x → x.holds args s none s [] = true := fun i x hx => wL x (List.mem_of_getElem? hx)
  obtain ⟨T, Z0, L, -, Y⟩ := ThrowableC.of_atoms (args := args) (by rw [hplat]) (by rw [hplat]) hpl wT
  obtain ⟨Z, M, LZ, LM, hnZ⟩ := Init0T.ofS_atoms (args := args) hpl L Y wS
  obtain ⟨P1, L1, hm1, hs1⟩ := PassC.ofS_atoms (args := args) (s := s) hpl (X := eN) (Y := xR) (by decide +kernel) (by decide +kernel) (by decide +kernel) (by decide +kernel) (by decide +kernel) (by decide +kernel) wP
  obtain ⟨P2, Ps, hlen, L2, hL, hm2, hlink2, hlink⟩ := Bundle.chainS (args := args) hpl hnZ [xE] xR (by decide +kernel) (by decide +kernel) wC
  have hl1 : P1.sup = P2.m := Option.some.inj (hs1.symm.trans hm2)
  have hfound : s.vm.findClass eN = some P1.m.cls := findClass_of_methodNamed hm1
  cases Option.some.inj (hfX.symm.trans hfound)
  obtain ⟨c1, kX', hc1, hk, hord, -, -, hn6⟩ := Cond.instantiable_spec (at_ 1 _ rfl)
  cases Option.some.inj (hc1.symm.trans hfound)
  cases Option.some.inj (hkX.symm.trans hk)
  have hsel0 : selectMethod e.platform s.vm P1.m.cls T.fill0 = .method T.fill0 := by
    obtain ⟨c2, r2, m2, q1, q2, q3, q4, -⟩ := Cond.selects_spec (at_ 3 _ rfl)
    cases Option.some.inj (q1.symm.trans hfound)
    cases Option.some.inj (q2.symm.trans (State.methodFound?_of_named Y.fill0 (by decide)))
    cases Option.some.inj (q3.symm.trans Y.fill0)
    rw [Launch.admits_selectMethod X.admits]; exact q4
  have hselF : selectMethod e.platform s.vm P1.m.cls T.fill = .method T.fill := by
    obtain ⟨c2, r2, m2, q1, q2, q3, q4, -⟩ := Cond.selects_spec (at_ 4 _ rfl)
    cases Option.some.inj (q1.symm.trans hfound)
    cases Option.some.inj (q2.symm.trans (State.methodFound?_of_named Y.fill (by decide)))
    cases Option.some.inj (q3.symm.trans Y.fill)
    rw [Launch.admits_selectMethod X.admits]; exact q4
  obtain ⟨cellS0, hcS0, hiss⟩ := Y.statics
  obtain ⟨u0, hu0⟩ := Cond.staticRefV Y.unassigned L.unassignedStatic L.statics hcS0 hiss (at_ 9 _ rfl)
  obtain ⟨sen, hsen⟩ := Cond.staticRefV Y.sentinel L.sentinelStatic L.statics hcS0 hiss (at_ 10 _ rfl)
  obtain ⟨ci198, i198, fB, hk198, hg198, ha198, hsB, -, hnB, htB, hffB⟩ := Cond.ownField (t := .object "java/lang/Object") Y.found L.cls (by decide +kernel) (at_ 11 _ rfl) (at_ 12 _ rfl) e.platform hpl
  obtain ⟨cellS, hcS', heS, -, hkeep⟩ := X.same.2.2.2.2.2 T.aS cellS0 hcS0
  have hnl : ∀ i, (⟨T.aS, i⟩ : Loc) ∉ locs := fun i hm => by
    have := hlocs _ hm cellS0 hcS0
    rw [hiss] at this; cases this
  have hkn : cellS.vm ≠ .unknown := by
    rw [heS]; intro hu
    rw [show cellS0.vm = .unknown from hu] at hiss
    cases hiss
  have hneS : T.aS ≠ a := Nat.ne_of_lt (Nat.lt_of_lt_of_le (Array.getElem?_eq_some_iff.mp hcS0).1 hnew)
  obtain ⟨iM, hffM⟩ := Y.msg
  obtain ⟨tyC, dC, hdC, hdnC⟩ := Cond.laysAt hfound hk Y.cause (at_ 5 _ rfl)
  obtain ⟨tyS, dS, hdS, hdnS⟩ := Cond.laysAt hfound hk Y.stack (at_ 6 _ rfl)
  obtain ⟨tyP, dP, hdP, hdnP⟩ := Cond.laysAt hfound hk Y.supp (at_ 7 _ rfl)
  obtain ⟨tyM, dM, hdM, hdnM⟩ := Cond.laysAt hfound hk hffM (at_ 8 _ rfl)
  obtain ⟨tyB, dB, hdB, hdnB⟩ := Cond.laysAt hfound hk hffB (at_ 13 _ rfl)
  have bC := Cond.laysApart hdB hdC hdnB hdnC (by rw [hnB, Y.causeName]; decide)
  have bS := Cond.laysApart hdB hdS hdnB hdnS (by rw [hnB, Y.stackName]; decide)
  have bP := Cond.laysApart hdB hdP hdnB hdnP (by rw [hnB, Y.suppName]; decide)
  have hskip : SkipFacts T e.platform s (fun u => u) u0 ((preparedCellV T.toThrowableT (freshCell P1.m.cls kX) a u0 sen).withEntry W.cur) :=
    ⟨{ ci198 := ci198, i198 := i198, fBack := fB }, ⟨hk198, hg198, ha198, hsB⟩, by
      have := fresh_default (c := P1.m.cls) tyB
      rw [htB] at this
      simpa [preparedCellV, Cell.setSlot, Cell.withEntry, Array.getElem?_setIfInBounds, bC, bS, bP, bC.symm, bS.symm, bP.symm, defaultValue] using this, fun _ _ => rfl⟩
  obtain ⟨tm, methC, cdC, kC, vm₁, hnC, -, -, -, -, -, -, -, hW₁, st1⟩ := Steps.initColdS (tb := p.tables) (e := e) (below := below) (s := s) (U := W) X.here hexec X.warmed hpl hown (t := Bundle.initS eN) rfl rfl (by decide +kernel)
    (at_ 0 _ rfl) (wP (.instanceMethod (Bundle.initS eN)) (by simp [Bundle.passSAtoms])) (bytes := prog_32_method_4_code) (maxL := 2) (wP (.code (Bundle.initS eN) prog_32_method_4_code 2 none) (by simp [Bundle.passSAtoms]))
    (f := g) hg (a := a) (msg := msg) (rest := .ref a :: rest) hstack hd6
  cases Option.some.inj (hnC.symm.trans hm1)
  have X₁ := X.noted hW₁
  have hlenN : (P2 :: Ps).length = 2 := by rw [List.length_cons, hlen]; rfl
  obtain ⟨vm₂, X₂, st2⟩ := X₁.ctorMessageOffV hexec (g := { g with stack := .ref a :: rest }) hg hsize T L Z LZ M LM (P1 :: P2 :: Ps)
    (fun P hP => by
      rcases List.mem_cons.mp hP with rfl | hP
      · exact L1
      · rcases List.mem_cons.mp hP with rfl | hP
        · exact L2
        · exact hL P hP) ⟨hl1, hlink2, hlink⟩ (u0 := u0) (sen := sen) (self := a) hmsg (cell := freshCell P1.m.cls kX) (cellS := cellS)
    hcell (fun _ => by simp) (by simp) rfl rfl hsel0 hselF hcS' hneS hkn (by rw [hkeep _ (hnl _)]; exact hu0) (by rw [hkeep _ (hnl _)]; exact hsen)
    (Takes.of_laid hk hord tyC (by rw [Y.causeType]; rfl)) (Takes.of_laid hk hord tyS (by rw [Y.stackType]; exact fits_refV_array _ u0)) (Takes.of_laid hk hord tyP (by rw [Y.suppType]; exact fits_refV_object _ sen))
    (Takes.of_laid hk hord tyM (by rw [Y.msgType]; exact fits_refV_object _ ⟨msg, hmsg⟩)) Y.objLocals hskip htr [] hd6
    (by rw [List.length_cons, hlenN]; omega) (by rw [List.length_cons, hlenN]; exact hRl)
  obtain ⟨hwalk, hrun, hended, hWU, hsame⟩ := X₂.athrowLeaves hexec (g := { g with stack := .ref a :: rest, pc := g.pc + 3 }) hg hlocked hentered hout (a := a) (rest := rest) rfl hd9
  have hlt : a < ((W.setVm vm₁).setVm vm₂).heap.size := (Array.getElem?_eq_some_iff.mp hcell).1
  have hU := heapAt_setCell_self (s := (W.setVm vm₁).setVm vm₂) (plainBareV T.toThrowableT (freshCell P1.m.cls kX) a u0 sen msg) hlt
  refine ⟨_, st1 _ (fun acts => ?_), hrun, hended, hWU, hsame.weaken (fun y hy hlt' => ?_) (Nat.le_refl _) (Nat.le_refl _), _, hU, rfl, rfl⟩
  · rw [doInvoke_state]
    exact st2 _ hwalk
  · rcases List.mem_append.mp hy with h1 | h1
    · exact h1
    · exfalso
      have hb : y.base = a := by
        simp only [List.mem_cons, List.not_mem_nil, or_false] at h1
        rcases h1 with rfl | rfl | rfl | rfl | rfl <;> rfl
      rw [hb] at hlt'
      exact Nat.not_lt.mpr hnew hlt'
end XNC
section THR
variable {p : Program} {l : Launch} {e : Env} {Rm : Room} {s : State} {m : MethodId} {args : Array Value} {below : List Frame} {meth : Method} {c : Code} {H : Heap} {locs : List Loc}
variable {cc : ByteArray} {nL : Nat} {own : String} {z : ZG} {D : va_G} {ca : Nat → ClassId} {ws ws0 : va_W} {pc : Nat} {ls : Array Slot} {rest : List Value} {idx sz : Nat}
theorem z_xhx {cls : String} (X : RW D ws s.heap H locs) (hsz : s.heap.size = sz) : ∀ t : State, s.vm.Alike t.vm → H.size ≤ t.heap.size → (∀ q : Nat, q < H.size → t.heap[q]? = H[q]?) → XCw D ws sz cls cls s t := fun t _ h1 h2 => by
  subst hsz
  exact ⟨rfl, X.1.kept (fun k x hx => h2 x.1 ((X.1 k x hx).lt)), Nat.le_trans X.2.2.1 h1, fun q hq hA => (h2 q (Nat.lt_of_lt_of_le hq X.2.2.1)).trans (X.2.2.2.1 q hq hA)⟩
theorem z_xfr (X : RW D ws s.heap H locs) (hsz : s.heap.size = sz) : ∀ q ∈ locs, AL ws sz q.base := by
  subst hsz; exact X.2.2.2.2
theorem z_throw {cls : String} {ik is ic : Nat} (M : MC D ca p s m args meth c cc nL own) (hex : ∀ x ∈ c.exceptionTable.toList, False) (hl0 : l.stackTraces = false) (hZ : ZF z (AL ws s.heap.size) s s.heap) (X : RW D ws s.heap H locs) (hsz : s.heap.size = sz) (hls : ls.size = nL) (i : Nat) (hi : i < 33) (ho : zO i = own ∧ zK i = is) (hfit : Bundle.fit cls = true) (hk : Cond.classLink own ik cls ∈ lw_all) (hini : Cond.initialized cls ∈ lw_all) (hat : ∀ w ∈ vx_atS own ic cls xnames, w ∈ zW ∨ w ∈ lw_all) (hot : ∀ w ∈ Cond.classLink own ik cls :: Cond.initialized cls :: vx_atS own ic cls xnames, vx_ot w = true)
    (d0 : decode cc pc = .ok (.new ik, 3)) (d3 : decode cc (pc + 3) = .ok (.dup, 1)) (d4 : decode cc (pc + 4) = .ok (.ldc is, 2)) (d6 : decode cc (pc + 6) = .ok (.invokespecial ic, 3)) (d9 : decode cc (pc + 9) = .ok (.athrow, 1)) (hR : 5 < Rm.frames ∧ 82 ≤ Rm.locals ∧ 1 ≤ Rm.cells ∧ 6 ≤ Rm.slots) : W p l e Rm s m args below meth c H locs 0 0 (vx_MQ below QNo (XCw D ws sz cls) args s 1 6 (AL ws sz)) (F0 m pc ls []) := by
  have M' := M
  obtain ⟨hx, hb, hml, hown, hts, hK, hlk⟩ := M'
  have hs := hZ.2.1 i hi
  rw [ho.1, ho.2] at hs
  refine vx_throwS (sa := z.1 i) (A := AL ws s.heap.size) hx hb hl0 hown hfit xnm_fit (hts _ hk) (hts _ hini) hs (fun w hw => ?_) hot hZ.2.2.2.2.1 hZ.2.2.2.2.2.1 X.2.2 (hls.trans hml.symm) d0 d3 d4 d6 d9 (fun x hx => (hex x hx).elim) hR.1 hR.2.1 hR.2.2.1 hR.2.2.2 hlk (z_xhx X hsz) (z_xfr X hsz) (Nat.le_refl _) (Nat.le_refl _)
  rcases hat w hw with h | h
  · exact va_Nw.use (zW_tab _ h) (hZ.2.2.2.2.2.2.2.2.2.1 _ h)
  · exact hts _ h
theorem z_throwW {cls : String} {ik is ic : Nat} (M : MC D ca p s m args meth c cc nL own) (hex : ∀ x ∈ c.exceptionTable.toList, False) (hl0 : l.stackTraces = false) (hZ : ZF z (AL ws s.heap.size) s s.heap) (X : RW D ws s.heap H locs) (hsz : s.heap.size = sz) (hls : ls.size = nL) (i : Nat) (hi : i < 33) (ho : zO i = own ∧ zK i = is) (hfit : Bundle.fit cls = true) (hk : Cond.classLink own ik cls ∈ lw_all) (hini : Cond.initialized cls ∈ lw_all) (hat : ∀ w ∈ vx_atS own ic cls xnames, w ∈ zW ∨ w ∈ lw_all) (hot : ∀ w ∈ Cond.classLink own ik cls :: Cond.initialized cls :: vx_atS own ic cls xnames, vx_ot w = true)
    (d0 : decode cc pc = .ok (.new ik, 3)) (d3 : decode cc (pc + 3) = .ok (.dup, 1)) (d4 : decode cc (pc + 4) = .ok (.ldc_w is, 3)) (d7 : decode cc (pc + 7) = .ok (.invokespecial ic, 3)) (d10 : decode cc (pc + 10) = .ok (.athrow, 1)) (hR : 5 < Rm.frames ∧ 82 ≤ Rm.locals ∧ 1 ≤ Rm.cells ∧ 6 ≤ Rm.slots) : W p l e Rm s m args below meth c H locs 0 0 (vx_MQ below QNo (XCw D ws sz cls) args s 1 6 (AL ws sz)) (F0 m pc ls []) := by
  have M' := M
  obtain ⟨hx, hb, hml, hown, hts, hK, hlk⟩ := M'
  have hs := hZ.2.1 i hi
  rw [ho.1, ho.2] at hs
  refine vx_throwSW (sa := z.1 i) (A := AL ws s.heap.size) hx hb hl0 hown hfit xnm_fit (hts _ hk) (hts _ hini) hs (fun w hw => ?_) hot hZ.2.2.2.2.1 hZ.2.2.2.2.2.1 X.2.2 (hls.trans hml.symm) d0 d3 d4 d7 d10 (fun x hx => (hex x hx).elim) hR.1 hR.2.1 hR.2.2.1 hR.2.2.2 hlk (z_xhx X hsz) (z_xfr X hsz) (Nat.le_refl _) (Nat.le_refl _)
  rcases hat w hw with h | h
  · exact va_Nw.use (zW_tab _ h) (hZ.2.2.2.2.2.2.2.2.2.1 _ h)
  · exact hts _ h
set_option maxHeartbeats 4000000 in
theorem z_thrN {is i : Nat} (M : MC D ca p s m args meth c cc nL RX7) (hex : ∀ x ∈ c.exceptionTable.toList, False) (hl0 : l.stackTraces = false) (hZ : ZF z (AL ws s.heap.size) s s.heap) (X0 : RW D ws s.heap H locs) (hsz : s.heap.size = sz) (hls : ls.size = nL) (hi : i < 33) (ho : zO i = RX7 ∧ zK i = is) (hk : Cond.classLink RX7 114 eN ∈ lw_all) (hini : Cond.initialized eN ∈ lw_all)
    (d0 : decode cc pc = .ok (.new 114, 3)) (d3 : decode cc (pc + 3) = .ok (.dup, 1)) (d4 : decode cc (pc + 4) = .ok (.ldc is, 2)) (d6 : decode cc (pc + 6) = .ok (.invokespecial 118, 3)) (d9 : decode cc (pc + 9) = .ok (.athrow, 1)) (hR : 5 < Rm.frames ∧ 83 ≤ Rm.locals ∧ 1 ≤ Rm.cells ∧ 6 ≤ Rm.slots) : W p l e Rm s m args below meth c H locs 0 0 (vx_MQ below QNo (XCw D ws sz eN) args s 1 6 (AL ws sz)) (F0 m pc ls []) := by
  obtain ⟨hexec, hb, hml, hown, hts, hK, hlk⟩ := M
  have hs := hZ.2.1 i hi
  rw [ho.1, ho.2] at hs
  intro T hT X
  have htr : e.platform.stackTraces = false := (show e.platform.stackTraces = l.stackTraces by rw [X.admits.platform]).trans hl0
  have Y := vx_rebase X (R' := { frames := Rm.frames, locals := Rm.locals, cells := 1, slots := 6 }) (Nat.le_refl _) (Nat.le_refl _) (by rw [Nat.zero_add]; exact hR.2.2.1) (by rw [Nat.zero_add]; exact hR.2.2.2)
  obtain ⟨s', hA⟩ : ∃ y, y = (T.setVm s.vm).setFrames (.invoking m args :: below) := ⟨_, rfl⟩
  rw [← hA] at Y
  have hvm : s'.vm = s.vm := by rw [hA]; rfl
  have hhp : s'.heap = H := by rw [hA]; exact hT
  have hW0 : s.WarmedH s'.vm := by rw [hvm]; exact State.WarmedH.refl s
  have hS : va_S (AL ws s.heap.size) s.heap H locs := X0.2.2
  have ht : ∀ w ∈ xwN.filter vx_no, w.before args s' = true := fun w hw => vx_ot_at hW0 hvm.symm (xot_N w (List.mem_cons_of_mem _ (List.mem_cons_of_mem _ hw))) (by
    rcases xat_N w hw with h | h
    · exact va_Nw.use (zW_tab _ h) (hZ.2.2.2.2.2.2.2.2.2.1 _ h)
    · exact hts _ h)
  have hk' : (Cond.classLink RX7 114 eN).before args s' = true := vx_ot_at hW0 hvm.symm (xot_N _ List.mem_cons_self) (hts _ hk)
  have hini' : (Cond.initialized eN).before args s' = true := vx_ot_at hW0 hvm.symm (xot_N _ (List.mem_cons_of_mem _ List.mem_cons_self)) (hts _ hini)
  have hU' : vx_Zq Bundle.tN "UNASSIGNED_STACK" Bundle.steD (AL ws s.heap.size) s' s'.heap := by rw [hhp]; exact vx_Zq.moved hW0.alike (hZ.2.2.2.2.1.kept hS.2.1)
  have hN' : vx_Zq Bundle.tN "SUPPRESSED_SENTINEL" Bundle.listD (AL ws s.heap.size) s' s'.heap := by rw [hhp]; exact vx_Zq.moved hW0.alike (hZ.2.2.2.2.2.1.kept hS.2.1)
  have h : ∀ w ∈ xwN, w.before args s' = true := vx_own ht (vx_isRefq hU'.1) (vx_isRefq hN'.1) hU'.2.word hN'.2.word
  have hown' : s'.vm.findClass RX7 = some m.cls := by rw [hvm]; exact hown
  have hins : (Cond.instantiable eN 6).before args s' = true := h _ (List.mem_append_right _ (List.mem_append_right _ (List.mem_append_right _ (List.mem_append_right _ (List.mem_of_getElem? (i := 1) rfl)))))
  obtain ⟨vm₁, cX, kX, hfX, hkX, -, -, X₁, st1⟩ := Y.newCold hexec (own := RX7) (C := eN) (index := 114) (n := 6) hown' hk' hins hini'
    (g := F0 m pc ls []) rfl (by rw [hb]; exact d0) (Nat.le_refl _) (Nat.le_refl _)
  generalize hT1 : (T.setVm vm₁).pushCell { cls := cX, slots := kX.instanceTypes.map defaultValue, vm := .none } = T1 at X₁ st1
  have hcellA : T1.heap[T.heap.size]? = some (freshCell cX kX) := by rw [← hT1]; exact State.heap_pushCell_size _ _
  have d3' : decode c.code (pc + 3) = .ok (.dup, 1) := by rw [hb]; exact d3
  have d4' : decode c.code (pc + 4) = .ok (.ldc is, 2) := by rw [hb]; exact d4
  have hstr' : vk_R RX7 is (zT i) (z.1 i) s' := vk_R.warm hW0 hs
  obtain ⟨U, hsteps, hrun, hend, hW, hsame, ce, hce, hcC, hcV⟩ := xn_ctor X₁ hexec htr hown' h (fun x hx => nomatch hx) hfX hkX hcellA (by rw [hhp, hT]; exact Nat.le_refl _) (msg := .ref (z.1 i)) rfl
    (g := { method := m, pc := pc + 6, locals := ls, stack := .ref (z.1 i) :: .ref T.heap.size :: .ref T.heap.size :: [], locked := none }) rfl (hls.trans hml.symm) rfl rfl (rest := []) rfl
    (by rw [hb]; exact d6) (by rw [hb]; exact d9) (fun x hx => (hex x hx).elim) hR.1 (by show 2 * 0 + 1 + 81 ≤ _; exact Nat.le_trans (by decide) hR.2.1) hlk
  obtain ⟨f1, f2⟩ := vx_frame hsame
  rw [hhp] at f1 f2
  have hWs : s.WarmedH U.vm := State.WarmedH.trans hW0 hW
  have hcl : s.vm.findClass eN = some ce.cls := by rw [hcC, ← hvm]; exact hfX
  have hall : s.sameButNew ({ U with vm := s.vm } : State) locs 1 6 := by
    subst hA
    obtain ⟨e1, e2⟩ := hsame
    rw [State.setFrames_setFrames] at e1
    have h2 : (T.setVm s.vm).sameButNew ({ U with vm := s.vm } : State) [] (0 + 1) (0 + 6) := ⟨e1, e2⟩
    have h3 := X.same.trans h2
    rw [List.append_nil] at h3
    exact h3.mono (Nat.le_refl _) (Nat.le_refl _)
  refine ⟨U, ?_, .threw T.heap.size, hrun, hend, Or.inr ⟨T.heap.size, rfl, eN, ce, locs, z_xhx X0 hsz U hWs.alike f1 (fun q hq => f2 q hq (fun x hx => nomatch hx)), hce, hcV, hcl, hWs, hall, z_xfr X0 hsz⟩⟩
  refine st1 _ ?_
  show Steps p.tables e below (T1.setTop { method := m, pc := pc + 3, locals := ls, stack := .ref T.heap.size :: [], locked := none }) _
  jvm_step X₁.here [X₁.here.top, hexec, d3', Value.category]
  exact X₁.ldcString hexec (own := RX7) (text := zT i) (index := is) (a := z.1 i) hown' hstr'.1 hstr'.2
    (g := { method := m, pc := pc + 4, locals := ls, stack := .ref T.heap.size :: .ref T.heap.size :: [], locked := none }) rfl d4' _ hsteps
set_option maxHeartbeats 4000000 in
theorem z_thrNW {is i : Nat} (M : MC D ca p s m args meth c cc nL RX7) (hex : ∀ x ∈ c.exceptionTable.toList, False) (hl0 : l.stackTraces = false) (hZ : ZF z (AL ws s.heap.size) s s.heap) (X0 : RW D ws s.heap H locs) (hsz : s.heap.size = sz) (hls : ls.size = nL) (hi : i < 33) (ho : zO i = RX7 ∧ zK i = is) (hk : Cond.classLink RX7 114 eN ∈ lw_all) (hini : Cond.initialized eN ∈ lw_all)
    (d0 : decode cc pc = .ok (.new 114, 3)) (d3 : decode cc (pc + 3) = .ok (.dup, 1)) (d4 : decode cc (pc + 4) = .ok (.ldc_w is, 3)) (d6 : decode cc (pc + 7) = .ok (.invokespecial 118, 3)) (d9 : decode cc (pc + 10) = .ok (.athrow, 1)) (hR : 5 < Rm.frames ∧ 83 ≤ Rm.locals ∧ 1 ≤ Rm.cells ∧ 6 ≤ Rm.slots) : W p l e Rm s m args below meth c H locs 0 0 (vx_MQ below QNo (XCw D ws sz eN) args s 1 6 (AL ws sz)) (F0 m pc ls []) := by
  obtain ⟨hexec, hb, hml, hown, hts, hK, hlk⟩ := M
  have hs := hZ.2.1 i hi
  rw [ho.1, ho.2] at hs
  intro T hT X
  have htr : e.platform.stackTraces = false := (show e.platform.stackTraces = l.stackTraces by rw [X.admits.platform]).trans hl0
  have Y := vx_rebase X (R' := { frames := Rm.frames, locals := Rm.locals, cells := 1, slots := 6 }) (Nat.le_refl _) (Nat.le_refl _) (by rw [Nat.zero_add]; exact hR.2.2.1) (by rw [Nat.zero_add]; exact hR.2.2.2)
  obtain ⟨s', hA⟩ : ∃ y, y = (T.setVm s.vm).setFrames (.invoking m args :: below) := ⟨_, rfl⟩
  rw [← hA] at Y
  have hvm : s'.vm = s.vm := by rw [hA]; rfl
  have hhp : s'.heap = H := by rw [hA]; exact hT
  have hW0 : s.WarmedH s'.vm := by rw [hvm]; exact State.WarmedH.refl s
  have hS : va_S (AL ws s.heap.size) s.heap H locs := X0.2.2
  have ht : ∀ w ∈ xwN.filter vx_no, w.before args s' = true := fun w hw => vx_ot_at hW0 hvm.symm (xot_N w (List.mem_cons_of_mem _ (List.mem_cons_of_mem _ hw))) (by
    rcases xat_N w hw with h | h
    · exact va_Nw.use (zW_tab _ h) (hZ.2.2.2.2.2.2.2.2.2.1 _ h)
    · exact hts _ h)
  have hk' : (Cond.classLink RX7 114 eN).before args s' = true := vx_ot_at hW0 hvm.symm (xot_N _ List.mem_cons_self) (hts _ hk)
  have hini' : (Cond.initialized eN).before args s' = true := vx_ot_at hW0 hvm.symm (xot_N _ (List.mem_cons_of_mem _ List.mem_cons_self)) (hts _ hini)
  have hU' : vx_Zq Bundle.tN "UNASSIGNED_STACK" Bundle.steD (AL ws s.heap.size) s' s'.heap := by rw [hhp]; exact vx_Zq.moved hW0.alike (hZ.2.2.2.2.1.kept hS.2.1)
  have hN' : vx_Zq Bundle.tN "SUPPRESSED_SENTINEL" Bundle.listD (AL ws s.heap.size) s' s'.heap := by rw [hhp]; exact vx_Zq.moved hW0.alike (hZ.2.2.2.2.2.1.kept hS.2.1)
  have h : ∀ w ∈ xwN, w.before args s' = true := vx_own ht (vx_isRefq hU'.1) (vx_isRefq hN'.1) hU'.2.word hN'.2.word
  have hown' : s'.vm.findClass RX7 = some m.cls := by rw [hvm]; exact hown
  have hins : (Cond.instantiable eN 6).before args s' = true := h _ (List.mem_append_right _ (List.mem_append_right _ (List.mem_append_right _ (List.mem_append_right _ (List.mem_of_getElem? (i := 1) rfl)))))
  obtain ⟨vm₁, cX, kX, hfX, hkX, -, -, X₁, st1⟩ := Y.newCold hexec (own := RX7) (C := eN) (index := 114) (n := 6) hown' hk' hins hini'
    (g := F0 m pc ls []) rfl (by rw [hb]; exact d0) (Nat.le_refl _) (Nat.le_refl _)
  generalize hT1 : (T.setVm vm₁).pushCell { cls := cX, slots := kX.instanceTypes.map defaultValue, vm := .none } = T1 at X₁ st1
  have hcellA : T1.heap[T.heap.size]? = some (freshCell cX kX) := by rw [← hT1]; exact State.heap_pushCell_size _ _
  have d3' : decode c.code (pc + 3) = .ok (.dup, 1) := by rw [hb]; exact d3
  have d4' : decode c.code (pc + 4) = .ok (.ldc_w is, 3) := by rw [hb]; exact d4
  have hstr' : vk_R RX7 is (zT i) (z.1 i) s' := vk_R.warm hW0 hs
  obtain ⟨U, hsteps, hrun, hend, hW, hsame, ce, hce, hcC, hcV⟩ := xn_ctor X₁ hexec htr hown' h (fun x hx => nomatch hx) hfX hkX hcellA (by rw [hhp, hT]; exact Nat.le_refl _) (msg := .ref (z.1 i)) rfl
    (g := { method := m, pc := pc + 7, locals := ls, stack := .ref (z.1 i) :: .ref T.heap.size :: .ref T.heap.size :: [], locked := none }) rfl (hls.trans hml.symm) rfl rfl (rest := []) rfl
    (by rw [hb]; exact d6) (by rw [hb]; exact d9) (fun x hx => (hex x hx).elim) hR.1 (by show 2 * 0 + 1 + 81 ≤ _; exact Nat.le_trans (by decide) hR.2.1) hlk
  obtain ⟨f1, f2⟩ := vx_frame hsame
  rw [hhp] at f1 f2
  have hWs : s.WarmedH U.vm := State.WarmedH.trans hW0 hW
  have hcl : s.vm.findClass eN = some ce.cls := by rw [hcC, ← hvm]; exact hfX
  have hall : s.sameButNew ({ U with vm := s.vm } : State) locs 1 6 := by
    subst hA
    obtain ⟨e1, e2⟩ := hsame
    rw [State.setFrames_setFrames] at e1
    have h2 : (T.setVm s.vm).sameButNew ({ U with vm := s.vm } : State) [] (0 + 1) (0 + 6) := ⟨e1, e2⟩
    have h3 := X.same.trans h2
    rw [List.append_nil] at h3
    exact h3.mono (Nat.le_refl _) (Nat.le_refl _)
  refine ⟨U, ?_, .threw T.heap.size, hrun, hend, Or.inr ⟨T.heap.size, rfl, eN, ce, locs, z_xhx X0 hsz U hWs.alike f1 (fun q hq => f2 q hq (fun x hx => nomatch hx)), hce, hcV, hcl, hWs, hall, z_xfr X0 hsz⟩⟩
  refine st1 _ ?_
  show Steps p.tables e below (T1.setTop { method := m, pc := pc + 3, locals := ls, stack := .ref T.heap.size :: [], locked := none }) _
  jvm_step X₁.here [X₁.here.top, hexec, d3', Value.category]
  exact z_ldcwT X₁ hexec (own := RX7) (text := zT i) (index := is) (q := z.1 i) hown' hstr'.1 hstr'.2
    (g := { method := m, pc := pc + 4, locals := ls, stack := .ref T.heap.size :: .ref T.heap.size :: [], locked := none }) rfl d4' _ hsteps
theorem z_xout {E : String} {st0 : List Value} (M : MC D ca p s m args meth c cc nL own) (hex : ∀ x ∈ c.exceptionTable.toList, False) (X : RW D ws s.heap H locs) (hsz : s.heap.size = sz) (hr : vx_Run p l e Rm s m args below meth c H locs 0 0 1 6 (F0 m pc ls st0) rest (fun _ _ _ => False) (XCw D ws H.size E) (AL ws H.size)) :
    W p l e Rm s m args below meth c H locs 0 0 (vx_MQ below QNo (XCw D ws sz E) args s 1 6 (AL ws sz)) (F0 m pc ls st0) := by
  obtain ⟨hx, hb, hml, hown, hts, hK, hlk⟩ := M
  subst hsz
  intro T hT X0
  rcases hr T hT X0 with ⟨v, st₀, t, T', L, h0, X', hL, e1, e2, hf, st⟩ | ⟨q, st₀, t, T', L, E', ce, h0, X', hL, e1, e2, ⟨rfl, hP, hF⟩, hce, hcv, hcl, st⟩
  · exact hf.elim
  · have hsub : ∀ q, AL ws H.size q → AL ws s.heap.size q := fun q h => h.elim Or.inl (fun h => Or.inr (Nat.le_trans X.2.2.1 h))
    rw [va_F, h0] at hF
    obtain ⟨t2, a1, b1⟩ := vx_out (p := p) (l := l) (e := e) (R := Rm) (s := s) (m := m) (args := args) (below := below) (meth := meth) (c := c) (H := T'.heap) (locs := locs ++ L) (cells := 0 + 1) (slots := 0 + 6) (mc := 1) (ms := 6) (Qc := QNo) (XC := XCw D ws s.heap.size E') (free := AL ws s.heap.size) (ls := ls) (rest := rest) (pc := pc) (E := E') (ce := ce) (q := q) (fun x hx => (hex x hx).elim) hlk (by rw [e1]; exact hce) hcv hcl
      (fun u hu _ => ⟨rfl, by rw [hu, e1]; exact hP, by rw [hu, e1]; exact Nat.le_trans X.2.2.1 hF.1, fun q hq hA => by rw [hu, e1, hF.2 q (Nat.lt_of_lt_of_le hq X.2.2.1) (fun z => hA (hsub q z))]; exact X.2.2.2.1 q hq hA⟩)
      (fun q hq => by
        rcases List.mem_append.mp hq with h | h
        · exact X.2.2.2.2 q h
        · exact hsub _ (hL q h)) (Nat.le_refl _) (Nat.le_refl _) T' rfl X'
    exact ⟨t2, st.trans a1, b1⟩
theorem z_xcallV {y : MethodName} {cc' : ByteArray} {nL' b : Nat} {ret' : Option FieldType} {rm' : Room} {C E : String} {As st : List Value} (M : MC D ca p s m args meth c cc nL own) (hex : ∀ x ∈ c.exceptionTable.toList, False) (hZ : ZF z (AL ws0 s.heap.size) s s.heap) (X : RW D ws s.heap H locs) (hf0 : ws.map Prod.fst = ws0.map Prod.fst) (hsz0 : s.heap.size = sz)
    (hM : vx_Met l y (ws_ y cc' nL' ret') rm' (PCz z D ca ws H.size (.ref b :: As)) QNo (XCw D ws H.size E) 1 6 (AL ws H.size)) (hsz : ls.size = nL) (n : Nat) (q1 : Cond.methodLink own idx y ∈ lw_all) (q2 : Cond.instanceMethod y ∈ lw_all) (q3 : Cond.selects C y y ∈ lw_all) (q4 : Cond.initialized C ∈ lw_all) (q5 : Cond.code y cc' nL' ret' ∈ lw_all)
    (hd : y.cls = C ∧ y.cls ≠ "java/lang/invoke/MethodHandle" ∧ y.cls ≠ "java/lang/invoke/VarHandle" ∧ (parseMethodDescriptor y.desc).map (fun d => d.parameters.length) = some n) (hR : (rm'.frames + 1 ≤ Rm.frames ∧ 8 + (nL' + 11) + rm'.locals ≤ Rm.locals) ∧ (rm'.cells = 1 ∧ rm'.slots = 6))
    (hrecv : (∃ cell : Cell, H[b]? = some cell ∧ cell.vm.isStatics = false ∧ s.vm.findClass C = some cell.cls)) (hn : As.length = n) (hst0 : st = As.reverse ++ .ref b :: rest) (hcat : (rest.map fun v => v.category).sum ≤ 8) (hdg : decode cc pc = .ok (.invokevirtual idx, 3)) (hf : 1 ≤ Rm.cells ∧ 6 ≤ Rm.slots) : W p l e Rm s m args below meth c H locs 0 0 (vx_MQ below QNo (XCw D ws sz E) args s 1 6 (AL ws sz)) (F0 m pc ls st) := by
  have M' := M
  obtain ⟨hx, hb, hml, hown, hts, hK, -⟩ := M'
  subst hst0
  have hG : GoodIn lw_all (wsV own idx C y (ws_ y cc' nL' ret')) := good_in (fun w hw => by
    rcases List.mem_append.mp hw with h | h
    · simp only [List.mem_cons, List.not_mem_nil, or_false] at h
      rcases h with rfl | rfl | rfl | rfl
      · exact q1
      · exact q2
      · exact q3
      · exact q4
    · exact good_ws q5 w h)
  exact z_xout M hex X hsz0 (vx_runV (As := As) (rest := rest) ⟨hx, hb, hml, hown, hts⟩ hM (cwV n hts hG rfl hR.2.1 hR.2.2 hd hR.1) ⟨PCz_blind, hrecv, z_pre M hZ X hf0⟩ rfl hn hsz rfl (lv_room hcat) hdg (by rw [Nat.zero_add, Nat.zero_add]; exact hf))
theorem z_xcallS {y : MethodName} {cc' : ByteArray} {nL' : Nat} {ret' : Option FieldType} {rm' : Room} {E : String} {As st : List Value} (M : MC D ca p s m args meth c cc nL own) (hex : ∀ x ∈ c.exceptionTable.toList, False) (hZ : ZF z (AL ws0 s.heap.size) s s.heap) (X : RW D ws s.heap H locs) (hf0 : ws.map Prod.fst = ws0.map Prod.fst) (hsz0 : s.heap.size = sz)
    (hM : vx_Met l y (ws_ y cc' nL' ret') rm' (PCz z D ca ws H.size As) QNo (XCw D ws H.size E) 1 6 (AL ws H.size)) (hsz : ls.size = nL) (n : Nat) (q1 : Cond.methodLink own idx y ∈ lw_all) (q2 : Cond.static y ∈ lw_all) (q4 : Cond.initialized y.cls ∈ lw_all) (q5 : Cond.code y cc' nL' ret' ∈ lw_all)
    (hd : y.cls ≠ "java/lang/invoke/MethodHandle" ∧ y.cls ≠ "java/lang/invoke/VarHandle" ∧ (parseMethodDescriptor y.desc).map (fun d => d.parameters.length) = some n) (hR : (rm'.frames + 1 ≤ Rm.frames ∧ 8 + (nL' + 11) + rm'.locals ≤ Rm.locals) ∧ (rm'.cells = 1 ∧ rm'.slots = 6))
    (hn : As.length = n) (hst0 : st = As.reverse ++ rest) (hcat : (rest.map fun v => v.category).sum ≤ 8) (hdg : decode cc pc = .ok (.invokestatic idx, 3)) (hf : 1 ≤ Rm.cells ∧ 6 ≤ Rm.slots) : W p l e Rm s m args below meth c H locs 0 0 (vx_MQ below QNo (XCw D ws sz E) args s 1 6 (AL ws sz)) (F0 m pc ls st) := by
  have M' := M
  obtain ⟨hx, hb, hml, hown, hts, hK, -⟩ := M'
  subst hst0
  have hG : GoodIn lw_all (va_wsS own idx y (ws_ y cc' nL' ret')) := good_in (fun w hw => by
    rcases List.mem_append.mp hw with h | h
    · simp only [List.mem_cons, List.not_mem_nil, or_false] at h
      rcases h with rfl | rfl | rfl
      · exact q1
      · exact q2
      · exact q4
    · exact good_ws q5 w h)
  exact z_xout M hex X hsz0 (vx_runS (As := As) (rest := rest) ⟨hx, hb, hml, hown, hts⟩ hM (va_cwS n hts hG rfl hR.2.1 hR.2.2 hd hR.1) ⟨PCz_blind, z_pre M hZ X hf0⟩ rfl hn hsz rfl (lv_room hcat) hdg (by rw [Nat.zero_add, Nat.zero_add]; exact hf))
end THR
