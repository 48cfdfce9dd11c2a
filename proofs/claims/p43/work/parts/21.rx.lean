/-! RX: bodies that make cells; the set of what may be written is fixed -/
def RX (D : va_G) (A : Nat → Prop) (ws : va_W) (H0 H : Heap) (locs : List Loc) : Prop := va_P D vwCl ws H ∧ va_D A ws ∧ va_S A H0 H locs
def QEa (D : va_G) (A : Nat → Prop) (B : va_W → Prop) : Array Value → State → Outcome → State → Prop := fun _ st o t => o = .returned none ∧ ∃ ws' : va_W, B ws' ∧ va_P D vwCl ws' t.heap ∧ va_D A ws' ∧ va_F A st t
theorem ap_get {us L : va_W} {j : Nat} {q : Nat × va_E} (h : L[j]? = some q) : (us ++ L)[us.length + j]? = some q := by
  rw [List.getElem?_append_right (by omega), show us.length + j - us.length = j by omega]; exact h
theorem ap_set {us L L' : va_W} {j : Nat} {q : Nat × va_E} (h : L.set j q = L') : (us ++ L).set (us.length + j) q = us ++ L' := by
  rw [List.set_append_right _ _ (by omega), show us.length + j - us.length = j by omega, h]
theorem arrV_congr {cA : ClassId} {n : Nat} {f g : Nat → Value} (h : ∀ j, j < n → f j = g j) : arrV cA n f = arrV cA n g := by
  unfold arrV
  congr 2
  funext j
  exact h j.val j.isLt
theorem RX.arr {D : va_G} {A : Nat → Prop} {ws : va_W} {H0 H : Heap} {locs : List Loc} {q0 a n : Nat} {cA : ClassId} {F F' : Nat → Option Nat} (X : RX D A ws H0 H locs) (he : ws[q0]? = some (a, .inl (cA, n, .inr (.inr (.inr (.inr F)))))) (h : ∀ j, j < n → F j = F' j) : RX D A (ws.set q0 (a, .inl (cA, n, .inr (.inr (.inr (.inr F')))))) H0 H locs := by
  refine ⟨fun k q hk => ?_, ?_, X.2.2⟩
  · by_cases hq : k = q0
    · subst hq
      rw [List.getElem?_set_self (List.getElem?_eq_some_iff.mp he).1] at hk
      cases hk
      have := X.1 k _ he
      show H[a]? = some (vp_cell _ _)
      have h2 : H[a]? = some (vp_cell cA (n, .inr (.inr (.inr (.inr F))))) := this
      rw [h2, vp_cell_q, vp_cell_q]
      exact congrArg some (arrV_congr (fun j hj => by rw [h j hj]))
    · rw [List.getElem?_set_ne (Ne.symm hq)] at hk
      exact X.1 k q hk
  · exact X.2.1.set he
theorem met_e {l : Launch} {y : MethodName} {cc : ByteArray} {nL : Nat} {rm : Room} {z : ZG} {D : va_G} {ca : Nat → ClassId} {ws : va_W} {sz : Nat} {av : List Value} {B : va_W → Prop} {mc ms : Nat} (hy : plainFor y = true) (hav : (lg_sl av).length ≤ nL)
    (body : ∀ (p : Program) (e : Env) (s : State) (m : MethodId) (args : Array Value) (below : List Frame) (meth : Method) (c : Code) (A : Nat → Prop), MC D ca p s m args meth c cc nL y.cls → meth.name = y.name → meth.sig.returnType = none → (∀ q, s.heap.size ≤ q → A q) → ZF z A s s.heap → RX D A ws s.heap s.heap [] → ∀ ls : Array Slot, lv_has ls nL (lv_args 0 av) →
      W p l e rm s m args below meth c s.heap [] 0 0 (MQ below (QEa D A B) args s mc ms A) (F0 m 0 ls [])) : Met l y (ws_ y cc nL none) rm (PCz z D ca ws sz av) (QEa D (AL ws sz) B) mc ms (AL ws sz) := by
  refine Met_ofWF (cc := cc) (maxL := nL) (ret := none) hy rfl ?_
  intro p e s m args below meth c s₁ Bd hml hv
  obtain ⟨⟨rfl, hsz, hP, hK, hD0⟩, hZ⟩ := hv
  have hts := atoms_spec (ws := ws_ y cc nL none) Bd.pre
  have hD : va_D (AL ws s.heap.size) ws := hD0.weaken (fun k q hk _ => Or.inl (List.mem_map.mpr ⟨q, List.mem_of_getElem? hk, rfl⟩))
  have hl := lv_entry av (n := nL) hav
  rw [lg_entry_eq]
  subst hsz
  exact body p e s m _ below meth c _ ⟨Bd.exec, Bd.bytes, hml, findClass_of_methodNamed Bd.named, fun w h => hts w (List.mem_cons_of_mem _ h), hK, Bd.notSynchronized⟩ (name_of_methodNamed Bd.named Bd.method).1 Bd.returns (fun q h => Or.inr h) hZ ⟨hP, hD, va_S.rf⟩ _ hl
section RXS
variable {p : Program} {l : Launch} {e : Env} {Rm : Room} {s : State} {m : MethodId} {args : Array Value} {below : List Frame} {meth : Method} {c : Code} {H : Heap} {locs : List Loc} {cells slots : Nat} {Q : State → Prop}
variable {cc : ByteArray} {nL : Nat} {own : String} {z : ZG} {D : va_G} {ca : Nat → ClassId} {A : Nat → Prop} {ws ws2 : va_W} {pc : Nat} {ls : Array Slot} {rest : List Value} {a idx : Nat}
theorem x_new (M : MC D ca p s m args meth c cc nL own) (hA : ∀ q, s.heap.size ≤ q → A q) (X : RX D A ws s.heap H locs) {C : String} {T : u_T} {N ci : Nat} (hin : ∀ w ∈ u_ws C T N, w ∈ lw_all) (ty : Nat → FieldType) (hty : ∀ k, k < N → parseFieldDescriptor (T k).2.2.1 = some (ty k)) (hcl : Cond.classLink own idx C ∈ lw_all) (hinst : Cond.instantiable C N ∈ lw_all) (hini : Cond.initialized C ∈ lw_all) (hc : vwCl[ci]? = some (C, T, N)) {fs : List Value} (hfs : ∀ j, j < N → defaultValue (ty j) = vp_V fs j) (hcells : cells + 1 ≤ Rm.cells) (hslots : slots + N ≤ Rm.slots) (hdg : decode cc pc = .ok (.new idx, 3))
    (kk : ∀ (q : Nat) (H1 : Heap), RX D A (ws ++ [(q, .inr (ci, fs))]) s.heap H1 locs → W p l e Rm s m args below meth c H1 locs (cells + 1) (slots + N) Q (F0 m (pc + 3) ls (.ref q :: rest))) : W p l e Rm s m args below meth c H locs cells slots Q (F0 m pc ls rest) := by
  obtain ⟨hx, hb, hml, hown, hts, hK, -⟩ := M
  exact va_new hx hb hts hin ty hty hown (hts _ hcl) (hts _ hinst) (hts _ hini) hK X.1 X.2.1 X.2.2 hA hc hfs hcells hslots hdg (fun q H1 h1 h2 h3 => kk q H1 ⟨h1, h2, h3⟩)
theorem x_newa (M : MC D ca p s m args meth c cc nL own) (hA : ∀ q, s.heap.size ≤ q → A q) (X : RX D A ws s.heap H locs) {atype : ArrayType} {ty : FieldType} (hty : newarray.typeOf atype = ty) (t0 : Nat) (ht : (tyl ca)[t0]? = some (ca t0, ty)) (hno : ∀ C, ty ≠ .object C) (harr : Cond.arrayClass ty ∈ lw_all) {n : Int32} {N' : Nat} {x : (Nat → Int32) ⊕ (Nat → Int64) ⊕ (Nat → UInt32) ⊕ (Nat → UInt64) ⊕ (Nat → Option Nat)}
    (ha : ∀ cA : ClassId, vp_cell cA (N', x) = arrV cA N' (fun _ => defaultValue ty)) (hn : ¬ n < 0) (hN : n.toNatClampNeg = N') (hbytes : N' * componentBytes ty ≤ 536870912) (hcells : cells + 1 ≤ Rm.cells) (hslots : slots + N' ≤ Rm.slots) (hdg : decode cc pc = .ok (.newarray atype, 2))
    (kk : ∀ (q : Nat) (H1 : Heap), RX D A (ws ++ [(q, .inl (ca t0, N', x))]) s.heap H1 locs → W p l e Rm s m args below meth c H1 locs (cells + 1) (slots + N') Q (F0 m (pc + 2) ls (.ref q :: rest))) : W p l e Rm s m args below meth c H locs cells slots Q (F0 m pc ls (.int n :: rest)) := by
  obtain ⟨hx, hb, hml, hown, hts, hK, -⟩ := M
  refine va_newa (a0 := (N', x)) hx hb (by rw [hty]; exact hts _ harr) hty hK X.1 X.2.1 X.2.2 hA ha hn hN hbytes hcells hslots hdg (fun q cA H1 k1_ h1 h2 h3 => ?_)
  have e1 : va_RA s cA ty := (k1_.2 (tyl ca).length (cA, ty) (by rw [List.getElem?_append_right (Nat.le_refl _), Nat.sub_self]; rfl)).2
  have e2 : va_RA s (ca t0) ty := (hK.2 t0 _ ht).2
  have e3 : cA = ca t0 := by
    cases ty with
    | object C => exact (hno C rfl).elim
    | _ => exact Option.some.inj (Eq.trans (Eq.symm e1) e2)
  subst e3
  exact kk q H1 ⟨h1, h2, h3⟩
theorem x_newq (M : MC D ca p s m args meth c cc nL own) (hA : ∀ q, s.heap.size ≤ q → A q) (X : RX D A ws s.heap H locs) {C : String} (hcl : Cond.classLink own idx C ∈ lw_all) (hover : va_AO C s) (t0 : Nat) (ht : (tyl ca)[t0]? = some (ca t0, .object C)) {n : Int32} {N' : Nat} (hn : ¬ n < 0) (hN : n.toNatClampNeg = N') (hbytes : N' * 4 ≤ 536870912) (hcells : cells + 1 ≤ Rm.cells) (hslots : slots + N' ≤ Rm.slots) (hdg : decode cc pc = .ok (.anewarray idx, 3))
    (kk : ∀ (q : Nat) (H1 : Heap), RX D A (ws ++ [(q, .inl (ca t0, N', .inr (.inr (.inr (.inr (fun _ => none))))))]) s.heap H1 locs → W p l e Rm s m args below meth c H1 locs (cells + 1) (slots + N') Q (F0 m (pc + 3) ls (.ref q :: rest))) : W p l e Rm s m args below meth c H locs cells slots Q (F0 m pc ls (.int n :: rest)) := by
  obtain ⟨hx, hb, hml, hown, hts, hK, -⟩ := M
  refine va_newq hx hb hown (hts _ hcl) hover hK X.1 X.2.1 X.2.2 hA hn hN hbytes hcells hslots hdg (fun q cA H1 k1_ h1 h2 h3 => ?_)
  obtain ⟨kA, comp, -, -, -, e1⟩ := (k1_.2 (tyl ca).length (cA, .object C) (by rw [List.getElem?_append_right (Nat.le_refl _), Nat.sub_self]; rfl)).2
  obtain ⟨kA2, comp2, -, -, -, e2⟩ := (hK.2 t0 _ ht).2
  have e3 : cA = ca t0 := Option.some.inj (e1.symm.trans e2)
  subst e3
  exact kk q H1 ⟨h1, h2, h3⟩
theorem x_get (M : MC D ca p s m args meth c cc nL own) (X : RX D A ws s.heap H locs) {C : String} {T : u_T} {N ci : Nat} {fs : List Value} {v : Value} (hin : ∀ w ∈ u_ws C T N, w ∈ lw_all) (hc : vwCl[ci]? = some (C, T, N)) (q0 : Nat) (he : ws[q0]? = some (a, .inr (ci, fs))) (k : Nat) (hk : k < N) (hl : Cond.fieldLink own idx (T k).1 (T k).2.1 (T k).2.2.1 ∈ lw_all) (hv : fs[k]? = some v) (hdg : decode cc pc = .ok (.getfield idx, 3))
    (kk : W p l e Rm s m args below meth c H locs cells slots Q (F0 m (pc + 3) ls (v :: rest))) : W p l e Rm s m args below meth c H locs cells slots Q (F0 m pc ls (.ref a :: rest)) := by
  obtain ⟨hx, hb, hml, hown, hts, hK, -⟩ := M
  exact va_get hx hb hts hin hown hK X.1 q0 he hc k hk (hts _ hl) (fun _ h => h) hv hdg kk
theorem x_alen (M : MC D ca p s m args meth c cc nL own) (X : RX D A ws s.heap H locs) {t0 : Nat} {x : vp_A} {ty : FieldType} (q0 : Nat) (he : ws[q0]? = some (a, .inl (ca t0, x))) (ht : (tyl ca)[t0]? = some (ca t0, ty)) {v : Int32} (hv : Int32.ofNat x.1 = v) (hdg : decode cc pc = .ok (.arraylength, 1))
    (kk : W p l e Rm s m args below meth c H locs cells slots Q (F0 m (pc + 1) ls (.int v :: rest))) : W p l e Rm s m args below meth c H locs cells slots Q (F0 m pc ls (.ref a :: rest)) := by
  obtain ⟨hx, hb, hml, hown, hts, hK, -⟩ := M
  exact va_alen hx hb hK X.1 q0 t0 he ht hv hdg kk
theorem x_put (M : MC D ca p s m args meth c cc nL own) (X : RX D A ws s.heap H locs) {C : String} {T : u_T} {N ci : Nat} {fs : List Value} {v : Value} {ty : FieldType} (hin : ∀ w ∈ u_ws C T N, w ∈ lw_all) (ty0 : Nat → FieldType) (hty : ∀ k, k < N → parseFieldDescriptor (T k).2.2.1 = some (ty0 k)) (hnm : ∀ a, a < N → ∀ b, b < N → a ≠ b → (T a).2.1 ≠ (T b).2.1) (hc : vwCl[ci]? = some (C, T, N)) (q0 : Nat) (he : ws[q0]? = some (a, .inr (ci, fs))) (k : Nat) (hk : k < N) (hl : Cond.fieldLink own idx (T k).1 (T k).2.1 (T k).2.2.1 ∈ lw_all) (hfin : (T k).2.2.2 = false) (hd : parseFieldDescriptor (T k).2.2.1 = some ty) (hn : narrow ty v = v) (hfit : fits ty v = true) (hlen : k < fs.length) (hs : ws.set q0 (a, .inr (ci, fs.set k v)) = ws2) (hdg : decode cc pc = .ok (.putfield idx, 3))
    (kk : ∀ (H1 : Heap) (locs1 : List Loc), RX D A ws2 s.heap H1 locs1 → W p l e Rm s m args below meth c H1 locs1 cells slots Q (F0 m (pc + 3) ls rest)) : W p l e Rm s m args below meth c H locs cells slots Q (F0 m pc ls (v :: .ref a :: rest)) := by
  obtain ⟨hx, hb, hml, hown, hts, hK, -⟩ := M
  subst hs
  exact va_put hx hb hts hin ty0 hty hnm hown hK X.1 X.2.1 X.2.2 q0 he hc k hk (hts _ hl) (fun _ h => h) hfin hd hn hfit hlen hdg (fun H1 locs1 h1 h2 h3 => kk H1 locs1 ⟨h1, h2, h3⟩)
theorem x_putF (M : MC D ca p s m args meth c cc nL own) (hname : meth.name = "<init>") (X : RX D A ws s.heap H locs) {T : u_T} {N ci : Nat} {fs : List Value} {v : Value} {ty : FieldType} (hin : ∀ w ∈ u_ws own T N, w ∈ lw_all) (ty0 : Nat → FieldType) (hty : ∀ k, k < N → parseFieldDescriptor (T k).2.2.1 = some (ty0 k)) (hnm : ∀ a, a < N → ∀ b, b < N → a ≠ b → (T a).2.1 ≠ (T b).2.1) (hc : vwCl[ci]? = some (own, T, N)) (q0 : Nat) (he : ws[q0]? = some (a, .inr (ci, fs))) (k : Nat) (hk : k < N) (hl : Cond.fieldLink own idx (T k).1 (T k).2.1 (T k).2.2.1 ∈ lw_all) (hfin : (T k).2.2.2 = true) (hdecl : (T k).1 = own) (hd : parseFieldDescriptor (T k).2.2.1 = some ty) (hn : narrow ty v = v) (hfit : fits ty v = true) (hlen : k < fs.length) (hs : ws.set q0 (a, .inr (ci, fs.set k v)) = ws2) (hdg : decode cc pc = .ok (.putfield idx, 3))
    (kk : ∀ (H1 : Heap) (locs1 : List Loc), RX D A ws2 s.heap H1 locs1 → W p l e Rm s m args below meth c H1 locs1 cells slots Q (F0 m (pc + 3) ls rest)) : W p l e Rm s m args below meth c H locs cells slots Q (F0 m pc ls (v :: .ref a :: rest)) := by
  obtain ⟨hx, hb, hml, hown, hts, hK, -⟩ := M
  subst hs
  exact va_putF hx hb hts hin ty0 hty hnm hown hK X.1 X.2.1 X.2.2 q0 he hc k hk (hts _ hl) (fun _ h => h) hfin hname hdecl hd hn hfit hlen hdg (fun H1 locs1 h1 h2 h3 => kk H1 locs1 ⟨h1, h2, h3⟩)
theorem x_astq (M : MC D ca p s m args meth c cc nL own) (X : RX D A ws s.heap H locs) (q0 t0 qk ci : Nat) {r : vw_C} {n v : Nat} {vs : List Value} {f : Nat → Option Nat} (ha : ws[q0]? = some (a, .inl (ca t0, n, .inr (.inr (.inr (.inr f)))))) (ht : (tyl ca)[t0]? = some (ca t0, .object r.1)) (hv : ws[qk]? = some (v, .inr (ci, vs))) (hc : vwCl[ci]? = some r) {i : Int32} (hin : vp_in i n) (hs : ws.set q0 (a, .inl (ca t0, n, .inr (.inr (.inr (.inr (va_up f i.toNatClampNeg (some v))))))) = ws2) (hdg : decode cc pc = .ok (.aastore, 1))
    (kk : ∀ (H1 : Heap) (locs1 : List Loc), RX D A ws2 s.heap H1 locs1 → W p l e Rm s m args below meth c H1 locs1 cells slots Q (F0 m (pc + 1) ls rest)) : W p l e Rm s m args below meth c H locs cells slots Q (F0 m pc ls (.ref v :: .int i :: .ref a :: rest)) := by
  obtain ⟨hx, hb, hml, hown, hts, hK, -⟩ := M
  subst hs
  exact va_astq hx hb hK X.1 X.2.1 X.2.2 q0 t0 qk ci ha ht hv hc hin hdg (fun H1 locs1 h1 h2 h3 => kk H1 locs1 ⟨h1, h2, h3⟩)
theorem x_sub (hA : ∀ q, s.heap.size ≤ q → A q) (X : RX D A ws s.heap H locs) : ∀ q, AL ws H.size q → A q := by
  rintro q (h | h)
  · obtain ⟨x, hx, rfl⟩ := List.mem_map.mp h
    obtain ⟨k, hk⟩ := List.getElem?_of_mem hx
    exact X.2.1.2 k x hk
  · exact hA q (Nat.le_trans X.2.2.1 h)
theorem x_run {st0 : List Value} {mc ms : Nat} {Qa : State → Outcome → State → Prop} {B : va_W → Prop} (hA : ∀ q, s.heap.size ≤ q → A q) (X : RX D A ws s.heap H locs) (hr : va_Run p l e Rm s m args below meth c H locs cells slots mc ms (F0 m pc ls st0) rest Qa (AL ws H.size))
    (hq : ∀ st v t, Qa st (.returned v) t → v = none ∧ ∃ ws' : va_W, B ws' ∧ va_P D vwCl ws' t.heap ∧ va_D (AL ws H.size) ws' ∧ va_F (AL ws H.size) st t)
    (kk : ∀ (ws2 : va_W) (H1 : Heap) (locs1 : List Loc), B ws2 → RX D A ws2 s.heap H1 locs1 → W p l e Rm s m args below meth c H1 locs1 (cells + mc) (slots + ms) Q (F0 m (pc + 3) ls rest)) : W p l e Rm s m args below meth c H locs cells slots Q (F0 m pc ls st0) := by
  intro T hT X0
  obtain ⟨v', st₀, t, T', L, h0, X', hL, e1, e2, hqa, st⟩ := hr T hT X0
  obtain ⟨rfl, ws2, hB, hP, hD, hz, hk⟩ := hq _ _ _ hqa
  rw [h0] at hz hk
  have hsub := x_sub hA X
  obtain ⟨t2, a1, b1⟩ := kk ws2 T'.heap (locs ++ L) hB ⟨by rw [e1]; exact hP, hD.weaken (fun _ _ _ h => hsub _ h), by
    refine ⟨Nat.le_trans X.2.2.1 (by rw [e1]; exact hz), fun q h1 h2 => ?_, fun q hq => ?_⟩
    · rw [e1, hk q (Nat.lt_of_lt_of_le h1 X.2.2.1) (fun z => h2 (hsub q z))]; exact X.2.2.2.1 q h1 h2
    · rcases List.mem_append.mp hq with h | h
      · exact X.2.2.2.2 q h
      · exact hsub _ (hL q h)⟩ T' rfl X'
  exact ⟨t2, st t2 a1, b1⟩
theorem x_prez {av : List Value} (M : MC D ca p s m args meth c cc nL own) (hA : ∀ q, s.heap.size ≤ q → A q) (hZ : ZF z A s s.heap) (X : RX D A ws s.heap H locs) : ∀ U : State, U.heap = H → s.WarmedH U.vm → PCz z D ca ws H.size av av.toArray U := fun U hU hW => by
  refine ⟨⟨rfl, by rw [hU], by rw [hU]; exact X.1, va_K.moved hW.alike M.2.2.2.2.2.1, X.2.1.weaken (fun _ _ _ _ => trivial)⟩, ?_⟩
  rw [hU]
  exact hZ.step X.2.2.2.1 (x_sub hA X) hW
theorem x_pre {av : List Value} (M : MC D ca p s m args meth c cc nL own) (X : RX D A ws s.heap H locs) : ∀ U : State, U.heap = H → s.WarmedH U.vm → PCw D ca ws H.size av av.toArray U := fun U hU hW =>
  ⟨rfl, by rw [hU], by rw [hU]; exact X.1, va_K.moved hW.alike M.2.2.2.2.2.1, X.2.1.weaken (fun _ _ _ _ => trivial)⟩
theorem x_qw {v : Option Value} {ws' : va_W} {a' : Array Value} {sz : Nat} (hv : v = none) : ∀ st v' t, QMw D ws ws' sz v a' st (.returned v') t → v' = none ∧ ∃ w : va_W, w = ws' ∧ va_P D vwCl w t.heap ∧ va_D (AL ws sz) w ∧ va_F (AL ws sz) st t := by
  rintro st v' t ⟨h1, h2, h3, h4⟩
  cases h1
  exact ⟨hv, ws', rfl, h2, h3, h4⟩
theorem x_qe {B : va_W → Prop} {a' : Array Value} {A' : Nat → Prop} : ∀ st v' t, QEa D A' B a' st (.returned v') t → v' = none ∧ ∃ w : va_W, B w ∧ va_P D vwCl w t.heap ∧ va_D A' w ∧ va_F A' st t := by
  rintro st v' t ⟨h1, h2⟩
  cases h1
  exact ⟨rfl, h2⟩
/-- a constructor by an ordinary link, telling its world by a property -/
theorem x_ctor {y : MethodName} {cc' : ByteArray} {nL' b mc ms : Nat} {rm' : Room} {As st : List Value} {B : va_W → Prop} (M : MC D ca p s m args meth c cc nL own) (hA : ∀ q, s.heap.size ≤ q → A q) (hZ : ZF z A s s.heap) (X : RX D A ws s.heap H locs)
    (hM : Met l y (ws_ y cc' nL' none) rm' (PCz z D ca ws H.size (.ref b :: As)) (QEa D (AL ws H.size) B) mc ms (AL ws H.size)) (hsz : ls.size = nL) (n : Nat) (q1 : Cond.methodLink own idx y ∈ lw_all) (q2 : Cond.instanceMethod y ∈ lw_all) (q4 : Cond.initialized y.cls ∈ lw_all) (q5 : Cond.code y cc' nL' none ∈ lw_all) (hn0 : y.name = "<init>")
    (hd : y.cls ≠ "java/lang/invoke/MethodHandle" ∧ y.cls ≠ "java/lang/invoke/VarHandle" ∧ (parseMethodDescriptor y.desc).map (fun d => d.parameters.length) = some n) (hR : (rm'.frames + 1 ≤ Rm.frames ∧ 8 + (nL' + 11) + rm'.locals ≤ Rm.locals) ∧ (rm'.cells = mc ∧ rm'.slots = ms))
    (hn : As.length = n) (hst0 : st = As.reverse ++ .ref b :: rest) (hcat : (rest.map fun v => v.category).sum ≤ 8) (hdg : decode cc pc = .ok (.invokespecial idx, 3)) (hf : cells + mc ≤ Rm.cells ∧ slots + ms ≤ Rm.slots)
    (kk : ∀ (ws2 : va_W) (H1 : Heap) (locs1 : List Loc), B ws2 → RX D A ws2 s.heap H1 locs1 → W p l e Rm s m args below meth c H1 locs1 (cells + mc) (slots + ms) Q (F0 m (pc + 3) ls rest)) : W p l e Rm s m args below meth c H locs cells slots Q (F0 m pc ls st) := by
  have M' := M
  obtain ⟨hx, hb, hml, hown, hts, hK, -⟩ := M'
  subst hst0
  exact x_run hA X (va_runI (As := As) (rest := rest) ⟨hx, hb, hml, hown, hts⟩ hM (cwI n hts (good_in (good_ws q5)) rfl hR.2.1 hR.2.2 (hts _ q4) (hts _ q1) (hts _ q2) hn0 hd hR.1) ⟨PCz_blind, x_prez M hA hZ X⟩ rfl hn hsz rfl (lv_room hcat) hdg hf) x_qe kk
/-- a constructor that is private in its class -/
theorem x_ctorN {y : MethodName} {host : String} {cc' : ByteArray} {nL' b mc ms : Nat} {rm' : Room} {As st : List Value} {B : va_W → Prop} (M : MC D ca p s m args meth c cc nL own) (hA : ∀ q, s.heap.size ≤ q → A q) (hZ : ZF z A s s.heap) (X : RX D A ws s.heap H locs)
    (hM : Met l y (ws_ y cc' nL' none) rm' (PCz z D ca ws H.size (.ref b :: As)) (QEa D (AL ws H.size) B) mc ms (AL ws H.size)) (hsz : ls.size = nL) (n : Nat) (q1 : va_Nw (.methodLinkNest own idx y host) s) (q2 : Cond.instanceMethod y ∈ lw_all) (q4 : Cond.initialized y.cls ∈ lw_all) (q5 : Cond.code y cc' nL' none ∈ lw_all) (hn0 : y.name = "<init>")
    (hd : y.cls ≠ "java/lang/invoke/MethodHandle" ∧ y.cls ≠ "java/lang/invoke/VarHandle" ∧ (parseMethodDescriptor y.desc).map (fun d => d.parameters.length) = some n) (hR : (rm'.frames + 1 ≤ Rm.frames ∧ 8 + (nL' + 11) + rm'.locals ≤ Rm.locals) ∧ (rm'.cells = mc ∧ rm'.slots = ms))
    (hn : As.length = n) (hst0 : st = As.reverse ++ .ref b :: rest) (hcat : (rest.map fun v => v.category).sum ≤ 8) (hdg : decode cc pc = .ok (.invokespecial idx, 3)) (hf : cells + mc ≤ Rm.cells ∧ slots + ms ≤ Rm.slots)
    (kk : ∀ (ws2 : va_W) (H1 : Heap) (locs1 : List Loc), B ws2 → RX D A ws2 s.heap H1 locs1 → W p l e Rm s m args below meth c H1 locs1 (cells + mc) (slots + ms) Q (F0 m (pc + 3) ls rest)) : W p l e Rm s m args below meth c H locs cells slots Q (F0 m pc ls st) := by
  have M' := M
  obtain ⟨hx, hb, hml, hown, hts, hK, -⟩ := M'
  subst hst0
  exact x_run hA X (va_runIN (As := As) (rest := rest) ⟨hx, hb, hml, hown, hts⟩ hM ⟨va_cnB n hts (good_in (good_ws q5)) rfl hR.2.1 hR.2.2 q1 (hts _ q4) hd hR.1, hn0, hts _ q2⟩ ⟨PCz_blind, x_prez M hA hZ X⟩ rfl hn hsz rfl (lv_room hcat) hdg hf) x_qe kk
/-- a call of a method that keeps the world's addresses -/
theorem x_callV {y : MethodName} {cc' : ByteArray} {nL' b q0 ci : Nat} {rm' : Room} {C : String} {qc : vw_C} {fs As st : List Value} (M : MC D ca p s m args meth c cc nL own) (hA : ∀ q, s.heap.size ≤ q → A q) (X : RX D A ws s.heap H locs)
    (hM : Met l y (ws_ y cc' nL' none) rm' (PCw D ca ws H.size (.ref b :: As)) (QMw D ws ws2 H.size none) 0 0 (AL ws H.size)) (hsz : ls.size = nL) (n : Nat) (q1 : Cond.methodLink own idx y ∈ lw_all) (q2 : Cond.instanceMethod y ∈ lw_all) (q3 : Cond.selects C y y ∈ lw_all) (q4 : Cond.initialized C ∈ lw_all) (q5 : Cond.code y cc' nL' none ∈ lw_all)
    (hd : y.cls = C ∧ y.cls ≠ "java/lang/invoke/MethodHandle" ∧ y.cls ≠ "java/lang/invoke/VarHandle" ∧ (parseMethodDescriptor y.desc).map (fun d => d.parameters.length) = some n) (hR : (rm'.frames + 1 ≤ Rm.frames ∧ 8 + (nL' + 11) + rm'.locals ≤ Rm.locals) ∧ (rm'.cells = 0 ∧ rm'.slots = 0))
    (he : ws[q0]? = some (b, .inr (ci, fs))) (hc : vwCl[ci]? = some qc) (hqc : qc.1 = C) (hn : As.length = n) (hst0 : st = As.reverse ++ .ref b :: rest) (hcat : (rest.map fun v => v.category).sum ≤ 8) (hdg : decode cc pc = .ok (.invokevirtual idx, 3)) (hf : cells ≤ Rm.cells ∧ slots ≤ Rm.slots)
    (kk : ∀ (H1 : Heap) (locs1 : List Loc), RX D A ws2 s.heap H1 locs1 → W p l e Rm s m args below meth c H1 locs1 cells slots Q (F0 m (pc + 3) ls rest)) : W p l e Rm s m args below meth c H locs cells slots Q (F0 m pc ls st) := by
  have M' := M
  obtain ⟨hx, hb, hml, hown, hts, hK, -⟩ := M'
  subst hst0
  have hG : GoodIn lw_all (wsV own idx C y (ws_ y cc' nL' none)) := good_in (fun w hw => by
    rcases List.mem_append.mp hw with h | h
    · simp only [List.mem_cons, List.not_mem_nil, or_false] at h
      rcases h with rfl | rfl | rfl | rfl
      · exact q1
      · exact q2
      · exact q3
      · exact q4
    · exact good_ws q5 w h)
  refine x_run hA X (va_runV (As := As) (rest := rest) ⟨hx, hb, hml, hown, hts⟩ hM (cwV n hts hG rfl hR.2.1 hR.2.2 hd hR.1) ⟨PCw_blind, hqc ▸ va_recv hK X.1 hc he, x_pre M X⟩ rfl hn hsz rfl (lv_room hcat) hdg hf) (x_qw rfl) (fun w H1 locs1 hw X1 => ?_)
  subst hw
  exact kk H1 locs1 X1
theorem x_vret {B : va_W → Prop} (M : MC D ca p s m args meth c cc nL own) (hr : meth.sig.returnType = none) (X : RX D A ws s.heap H locs) (hB : B ws) (hdg : decode cc pc = .ok (.return_, 1)) : W p l e Rm s m args below meth c H locs cells slots (MQ below (QEa D A B) args s cells slots A) (F0 m pc ls []) := by
  obtain ⟨hx, hb, hml, hown, hts, hK, hlk⟩ := M
  exact W.vret hx hb hr (fun t ht _ => ⟨rfl, ws, hB, by rw [ht]; exact X.1, X.2.1, X.2.2.F ht⟩) X.2.2.2.2 hdg hlk
end RXS
section RXP
variable {p : Program} {l : Launch} {e : Env} {Rm : Room} {s : State} {m : MethodId} {args : Array Value} {below : List Frame} {meth : Method} {c : Code} {H : Heap} {locs : List Loc} {cells slots : Nat} {Q : State → Prop}
variable {cc : ByteArray} {nL : Nat} {own : String} {z : ZG} {D : va_G} {ca : Nat → ClassId} {A : Nat → Prop} {ws ws2 : va_W} {pc : Nat} {ls : Array Slot} {rest : List Value} {idx : Nat}
theorem x_compact (M : MC D ca p s m args meth c cc nL own) (hZ : ZF z A s s.heap) (X : RX D A ws s.heap H locs) (hl : Cond.fieldLink own idx "java/lang/String" "COMPACT_STRINGS" "Z" ∈ lw_all) (hdg : decode cc pc = .ok (.getstatic idx, 3))
    (k : W p l e Rm s m args below meth c H locs cells slots Q (F0 m (pc + 3) ls (.int 1 :: rest))) : W p l e Rm s m args below meth c H locs cells slots Q (F0 m pc ls rest) :=
  va_gets M.1 M.2.1 hZ.2.2.1 X.2.2 M.2.2.2.1 (M.2.2.2.2.1 _ hl) (fun _ h => h) hdg k
end RXP
theorem va_D_iff {A : Nat → Prop} {ws : va_W} : va_D A ws ↔ (ws.map Prod.fst).Nodup ∧ ∀ q ∈ ws, A q.1 := by
  constructor
  · rintro ⟨h1, h2⟩
    refine ⟨List.pairwise_iff_getElem.mpr (fun i j hi hj hij he => ?_), fun q hq => ?_⟩
    · have hi' : i < ws.length := by simpa using hi
      have hj' : j < ws.length := by simpa using hj
      have e : (ws[i]).1 = (ws[j]).1 := by simpa using he
      have := h1 i j _ _ (List.getElem?_eq_getElem hi') (List.getElem?_eq_getElem hj') e
      omega
    · obtain ⟨k, hk⟩ := List.getElem?_of_mem hq
      exact h2 k q hk
  · rintro ⟨h1, h2⟩
    refine ⟨fun i j p q hi hj he => ?_, fun k q hk => h2 q (List.mem_of_getElem? hk)⟩
    obtain ⟨hi', rfl⟩ := List.getElem?_eq_some_iff.mp hi
    obtain ⟨hj', rfl⟩ := List.getElem?_eq_some_iff.mp hj
    rcases Nat.lt_trichotomy i j with h | h | h
    · exact (List.pairwise_iff_getElem.mp h1 i j (by simpa using hi') (by simpa using hj') h (by simpa using he)).elim
    · exact h
    · exact (List.pairwise_iff_getElem.mp h1 j i (by simpa using hj') (by simpa using hi') h (by simpa using he.symm)).elim
theorem RX.perm {D : va_G} {A : Nat → Prop} {ws ws' : va_W} {H0 H : Heap} {locs : List Loc} (hp : ws.Perm ws') (X : RX D A ws H0 H locs) : RX D A ws' H0 H locs := by
  refine ⟨fun k q hk => ?_, ?_, X.2.2⟩
  · obtain ⟨j, hj⟩ := List.getElem?_of_mem (hp.symm.subset (List.mem_of_getElem? hk))
    exact X.1 j q hj
  · have h := va_D_iff.mp X.2.1
    exact va_D_iff.mpr ⟨(hp.map Prod.fst).nodup_iff.mp h.1, fun q hq => h.2 q (hp.symm.subset hq)⟩
