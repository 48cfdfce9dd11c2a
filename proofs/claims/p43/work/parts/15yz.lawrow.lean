/-! LAWROWS: calls that make cells, an array of ints -/
theorem xs_fst {ar : Nat → Nat → Nat} {ag : Nat → Nat} {ca : Nat → ClassId} {P P' : RowsS} {G G' : GlbS} {ys : va_W} {a : Nat} {e e' : va_E} : (wC ar ag ca P G ++ (ys ++ ([(a, e)] : va_W))).map Prod.fst = (wC ar ag ca P' G' ++ (ys ++ ([(a, e')] : va_W))).map Prod.fst := by
  rw [List.map_append, List.map_append, wC_fst (P := P) (P' := P') (G := G) (G' := G')]; simp only [List.map_append, List.map_cons, List.map_nil]
section WRAP
variable {p : Program} {l : Launch} {e : Env} {Rm : Room} {s : State} {m : MethodId} {args : Array Value} {below : List Frame} {meth : Method} {c : Code} {H0 H : Heap} {locs : List Loc} {cells slots : Nat} {Q : State → Prop}
variable {cc : ByteArray} {nL : Nat} {own : String} {z : ZG} {D : va_G} {ca : Nat → ClassId} {ws ws0 ws2 : va_W} {pc : Nat} {ls : Array Slot} {rest : List Value} {idx sz : Nat}
theorem w_widen {k n : Nat} {g : JFrame} (h1 : cells ≤ k) (h2 : slots ≤ n) (kk : W p l e Rm s m args below meth c H locs k n Q g) : W p l e Rm s m args below meth c H locs cells slots Q g := fun T hT X => kk T hT (stand_widen X h1 h2)
theorem z_callVg {y : MethodName} {cc' : ByteArray} {nL' b mc ms : Nat} {ret' : Option FieldType} {rm' : Room} {C : String} {v : Option Value} {As st st' : List Value} (M : MC D ca p s m args meth c cc nL own) (hZ : ZF z (AL ws0 s.heap.size) s s.heap) (X : RW D ws s.heap H locs) (hf0 : ws.map Prod.fst = ws0.map Prod.fst) (hfst : ws2.map Prod.fst = ws.map Prod.fst)
    (hM : Met l y (ws_ y cc' nL' ret') rm' (PCz z D ca ws H.size (.ref b :: As)) (QMw D ws ws2 H.size v) mc ms (AL ws H.size)) (hsz : ls.size = nL) (n : Nat) (q1 : Cond.methodLink own idx y ∈ lw_all) (q2 : Cond.instanceMethod y ∈ lw_all) (q3 : Cond.selects C y y ∈ lw_all) (q4 : Cond.initialized C ∈ lw_all) (q5 : Cond.code y cc' nL' ret' ∈ lw_all)
    (hd : y.cls = C ∧ y.cls ≠ "java/lang/invoke/MethodHandle" ∧ y.cls ≠ "java/lang/invoke/VarHandle" ∧ (parseMethodDescriptor y.desc).map (fun d => d.parameters.length) = some n) (hR : (rm'.frames + 1 ≤ Rm.frames ∧ 8 + (nL' + 11) + rm'.locals ≤ Rm.locals) ∧ (rm'.cells = mc ∧ rm'.slots = ms))
    (hrecv : (∃ cell : Cell, H[b]? = some cell ∧ cell.vm.isStatics = false ∧ s.vm.findClass C = some cell.cls)) (hn : As.length = n) (hst0 : st = As.reverse ++ .ref b :: rest) (hcat : (rest.map fun v => v.category).sum ≤ 8) (hdg : decode cc pc = .ok (.invokevirtual idx, 3)) (hf : cells + mc ≤ Rm.cells ∧ slots + ms ≤ Rm.slots) (hst : v.toList ++ rest = st')
    (kk : ∀ (H1 : Heap) (locs1 : List Loc), RW D ws2 s.heap H1 locs1 → W p l e Rm s m args below meth c H1 locs1 (cells + mc) (slots + ms) Q (F0 m (pc + 3) ls st')) : W p l e Rm s m args below meth c H locs cells slots Q (F0 m pc ls st) := by
  have M' := M
  obtain ⟨hx, hb, hml, hown, hts, hK, -⟩ := M'
  subst hst0
  have hG : GoodIn lw_all (wsV own idx C y (ws_ y cc' nL' ret')) := good_in (fun w hw => by
    rcases List.mem_append.mp hw with h | h
    · simp only [List.mem_cons, List.not_mem_nil, or_false] at h
      rcases h with rfl | rfl | rfl | rfl
      · exact q1
      · exact q2
      · exact q3
      · exact q4
    · exact good_ws q5 w h)
  exact w_run X hfst (va_runV (As := As) (rest := rest) ⟨hx, hb, hml, hown, hts⟩ hM (cwV n hts hG rfl hR.2.1 hR.2.2 hd hR.1) ⟨PCz_blind, hrecv, z_pre M hZ X hf0⟩ rfl hn hsz rfl (lv_room hcat) hdg hf) hst kk
theorem z_callSg {y : MethodName} {cc' : ByteArray} {nL' mc ms : Nat} {ret' : Option FieldType} {rm' : Room} {v : Option Value} {As st st' : List Value} (M : MC D ca p s m args meth c cc nL own) (hZ : ZF z (AL ws0 s.heap.size) s s.heap) (X : RW D ws s.heap H locs) (hf0 : ws.map Prod.fst = ws0.map Prod.fst) (hfst : ws2.map Prod.fst = ws.map Prod.fst)
    (hM : Met l y (ws_ y cc' nL' ret') rm' (PCz z D ca ws H.size As) (QMw D ws ws2 H.size v) mc ms (AL ws H.size)) (hsz : ls.size = nL) (n : Nat) (q1 : Cond.methodLink own idx y ∈ lw_all) (q2 : Cond.static y ∈ lw_all) (q4 : Cond.initialized y.cls ∈ lw_all) (q5 : Cond.code y cc' nL' ret' ∈ lw_all)
    (hd : y.cls ≠ "java/lang/invoke/MethodHandle" ∧ y.cls ≠ "java/lang/invoke/VarHandle" ∧ (parseMethodDescriptor y.desc).map (fun d => d.parameters.length) = some n) (hR : (rm'.frames + 1 ≤ Rm.frames ∧ 8 + (nL' + 11) + rm'.locals ≤ Rm.locals) ∧ (rm'.cells = mc ∧ rm'.slots = ms))
    (hn : As.length = n) (hst0 : st = As.reverse ++ rest) (hcat : (rest.map fun v => v.category).sum ≤ 8) (hdg : decode cc pc = .ok (.invokestatic idx, 3)) (hf : cells + mc ≤ Rm.cells ∧ slots + ms ≤ Rm.slots) (hst : v.toList ++ rest = st')
    (kk : ∀ (H1 : Heap) (locs1 : List Loc), RW D ws2 s.heap H1 locs1 → W p l e Rm s m args below meth c H1 locs1 (cells + mc) (slots + ms) Q (F0 m (pc + 3) ls st')) : W p l e Rm s m args below meth c H locs cells slots Q (F0 m pc ls st) := by
  have M' := M
  obtain ⟨hx, hb, hml, hown, hts, hK, -⟩ := M'
  subst hst0
  have hG : GoodIn lw_all (va_wsS own idx y (ws_ y cc' nL' ret')) := good_in (fun w hw => by
    rcases List.mem_append.mp hw with h | h
    · simp only [List.mem_cons, List.not_mem_nil, or_false] at h
      rcases h with rfl | rfl | rfl
      · exact q1
      · exact q2
      · exact q4
    · exact good_ws q5 w h)
  exact w_run X hfst (va_runS (As := As) (rest := rest) ⟨hx, hb, hml, hown, hts⟩ hM (va_cwS n hts hG rfl hR.2.1 hR.2.2 hd hR.1) ⟨PCz_blind, z_pre M hZ X hf0⟩ rfl hn hsz rfl (lv_room hcat) hdg hf) hst kk
theorem b_set {ar : Nat → Nat → Nat} {ag : Nat → Nat} {P : RowsS} {G : GlbS} {xs : va_W} {bw N i : Nat} {B B2 : Nat → Int32} {v : Int32} (e : B2 = va_up B i v) : (wC ar ag ca P G ++ (xs ++ ([(bw, .inl (ca 1, N, .inl B))] : va_W))).set (243 + xs.length) (bw, .inl (ca 1, N, .inl (va_up B i v))) = wC ar ag ca P G ++ (xs ++ ([(bw, .inl (ca 1, N, .inl B2))] : va_W)) := by
  subst e; exact ctor_set
theorem z_newb {ar : Nat → Nat → Nat} {ag : Nat → Nat} {P : RowsS} {G : GlbS} {xs : va_W} (M : MC D ca p s m args meth c cc nL own) (hZ : ZF z (AL ws0 s.heap.size) s s.heap) (X : RW D (wC ar ag ca P G ++ xs) s.heap H locs) (hf0 : (wC ar ag ca P G ++ xs).map Prod.fst = ws0.map Prod.fst) {n : Int32} {N' : Nat} (hN : n.toNatClampNeg = N') (hn : ¬ n < 0) (hbytes : N' * componentBytes .int ≤ 536870912) (harr : Cond.arrayClass .int ∈ lw_all) (hcells : cells + 1 ≤ Rm.cells) (hslots : slots + N' ≤ Rm.slots) (hdg : decode cc pc = .ok (.newarray .int, 2))
    (kk : ∀ (q : Nat) (H1 : Heap), (∀ (P : RowsS) (G : GlbS) (B : Nat → Int32) (H : Heap) (locs : List Loc), RW D (wC ar ag ca P G ++ (xs ++ ([(q, .inl (ca 1, N', .inl B))] : va_W))) s.heap H locs → RW D (wC ar ag ca P G ++ xs) s.heap H locs) → ZF z (AL (wC ar ag ca P G ++ (xs ++ ([(q, .inl (ca 1, N', .inl fun _ => 0))] : va_W))) s.heap.size) s s.heap → RW D (wC ar ag ca P G ++ (xs ++ ([(q, .inl (ca 1, N', .inl fun _ => 0))] : va_W))) s.heap H1 locs → W p l e Rm s m args below meth c H1 locs (cells + 1) (slots + N') Q (F0 m (pc + 2) ls (.ref q :: rest))) : W p l e Rm s m args below meth c H locs cells slots Q (F0 m pc ls (.int n :: rest)) := by
  obtain ⟨hx, hb, hml, hown, hts, hK, -⟩ := M
  refine va_newa (atype := .int) (a0 := (N', .inl fun _ => 0)) hx hb (hts _ harr) rfl hK X.1 X.2.1 X.2.2 (fun q h => Or.inr h) (fun cA => rfl) hn hN hbytes hcells hslots hdg (fun q cA H1 k1_ h1 h2 h3 => ?_)
  have e1 : va_RA s cA .int := (k1_.2 (tyl ca).length (cA, .int) (by rw [List.getElem?_append_right (Nat.le_refl _), Nat.sub_self]; rfl)).2
  have e2 : va_RA s (ca 1) .int := (hK.2 1 _ rfl).2
  have e3 : cA = ca 1 := by
    have := e1.symm.trans e2
    cases this; rfl
  subst e3
  have e : AL ((wC ar ag ca P G ++ xs) ++ ([(q, .inl (ca 1, N', .inl fun _ => 0))] : va_W)) s.heap.size = AL (wC ar ag ca P G ++ xs) s.heap.size := al_app (fun x hxx => by
    rw [List.mem_singleton] at hxx
    subst hxx
    exact h2.2 (wC ar ag ca P G ++ xs).length _ (by simp))
  have e4 : ∀ (P' : RowsS) (G' : GlbS) (B : Nat → Int32), AL (wC ar ag ca P' G' ++ (xs ++ ([(q, .inl (ca 1, N', .inl B))] : va_W))) s.heap.size = AL (wC ar ag ca P G ++ xs) s.heap.size := fun P' G' B => by
    rw [← e, List.append_assoc]
    exact AL_fst xs_fst
  have X1 : RW D ((wC ar ag ca P G ++ xs) ++ ([(q, .inl (ca 1, N', .inl fun _ => 0))] : va_W)) s.heap H1 locs := ⟨h1, by rw [e]; exact h2, by rw [e]; exact h3⟩
  refine kk q H1 (fun P' G' B H' locs' X' => ?_) ?_ (by rw [← List.append_assoc]; exact X1)
  · rw [← List.append_assoc] at X'
    refine X'.drop ?_
    rw [List.append_assoc, e4]
    exact AL_fst wC_fstx
  · rw [e4, AL_fst hf0]; exact hZ
end WRAP
