/-! BUILDER: the StringBuilder's cells -/
theorem iJ4 : ∀ w ∈ u_ws RJ4 TJ4 4, w ∈ lw_all := by decide +kernel
theorem zfit : ∀ i, i < 33 → ∀ j, j < 25 → fits .byte (.int (zch i j)) = true := by decide +kernel
theorem zlen25 : ∀ i, i < 33 → zlen i < 25 := by decide +kernel
section SBR
variable {p : Program} {l : Launch} {e : Env} {Rm : Room} {s : State} {m : MethodId} {args : Array Value} {below : List Frame} {meth : Method} {c : Code} {H0 H : Heap} {locs : List Loc} {cells slots : Nat} {Q : State → Prop}
variable {cc : ByteArray} {nL : Nat} {own : String} {z : ZG} {D : va_G} {ca : Nat → ClassId} {ar : Nat → Nat → Nat} {ag : Nat → Nat} {xs ws0 : va_W} {pc : Nat} {ls : Array Slot} {rest : List Value} {P : RowsS} {G G2 : GlbS} {i idx : Nat}
theorem g_sbv (K : MC D ca p s m args meth c cc nL own) (X : RW D (wC ar ag ca P G ++ xs) H0 H locs) (hl : Cond.fieldLink own idx (TJ4 0).1 (TJ4 0).2.1 (TJ4 0).2.2.1 ∈ lw_all) (hdg : decode cc pc = .ok (.getfield idx, 3))
    (kk : W p l e Rm s m args below meth c H locs cells slots Q (F0 m (pc + 3) ls (.ref (ag 6) :: rest))) : W p l e Rm s m args below meth c H locs cells slots Q (F0 m pc ls (.ref (ag 5) :: rest)) :=
  w_get K X iJ4 rfl (234 + 5) (pl_glb (by omega)) 0 (by omega) hl rfl hdg kk
theorem g_sbc (K : MC D ca p s m args meth c cc nL own) (X : RW D (wC ar ag ca P G ++ xs) H0 H locs) (hl : Cond.fieldLink own idx (TJ4 1).1 (TJ4 1).2.1 (TJ4 1).2.2.1 ∈ lw_all) (hdg : decode cc pc = .ok (.getfield idx, 3))
    (kk : W p l e Rm s m args below meth c H locs cells slots Q (F0 m (pc + 3) ls (.int 0 :: rest))) : W p l e Rm s m args below meth c H locs cells slots Q (F0 m pc ls (.ref (ag 5) :: rest)) :=
  w_get K X iJ4 rfl (234 + 5) (pl_glb (by omega)) 1 (by omega) hl rfl hdg kk
theorem g_sbn (K : MC D ca p s m args meth c cc nL own) (X : RW D (wC ar ag ca P G ++ xs) H0 H locs) (hl : Cond.fieldLink own idx (TJ4 3).1 (TJ4 3).2.1 (TJ4 3).2.2.1 ∈ lw_all) (hdg : decode cc pc = .ok (.getfield idx, 3))
    (kk : W p l e Rm s m args below meth c H locs cells slots Q (F0 m (pc + 3) ls (.int (G 5 3) :: rest))) : W p l e Rm s m args below meth c H locs cells slots Q (F0 m pc ls (.ref (ag 5) :: rest)) :=
  w_get K X iJ4 rfl (234 + 5) (pl_glb (by omega)) 3 (by omega) hl rfl hdg kk
theorem p_sbn (K : MC D ca p s m args meth c cc nL own) (X : RW D (wC ar ag ca P G ++ xs) H0 H locs) {v : Int32} (hN : G2 = sg G 5 3 v) (hl : Cond.fieldLink own idx (TJ4 3).1 (TJ4 3).2.1 (TJ4 3).2.2.1 ∈ lw_all) (hdg : decode cc pc = .ok (.putfield idx, 3))
    (kk : ∀ (H1 : Heap) (locs1 : List Loc), RW D (wC ar ag ca P G2 ++ xs) H0 H1 locs1 → W p l e Rm s m args below meth c H1 locs1 cells slots Q (F0 m (pc + 3) ls rest)) : W p l e Rm s m args below meth c H locs cells slots Q (F0 m pc ls (.int v :: .ref (ag 5) :: rest)) := by
  subst hN
  refine w_put (ty := .int) K X iJ4 tyJ4 tyJ4_ok nmJ4 rfl (234 + 5) (pl_glb (by omega)) 3 (by omega) hl (by decide +kernel) (by decide +kernel) rfl rfl (show 3 < 4 by omega) (set_glb (by omega) ?_ ?_) hdg kk
  · rfl
  · intro d hd; simp [sg, va_up_ne _ _ hd]
theorem p_sbm (K : MC D ca p s m args meth c cc nL own) (X : RW D (wC ar ag ca P G ++ xs) H0 H locs) (hN : G2 = sg G 5 2 1) (hl : Cond.fieldLink own idx (TJ4 2).1 (TJ4 2).2.1 (TJ4 2).2.2.1 ∈ lw_all) (hdg : decode cc pc = .ok (.putfield idx, 3))
    (kk : ∀ (H1 : Heap) (locs1 : List Loc), RW D (wC ar ag ca P G2 ++ xs) H0 H1 locs1 → W p l e Rm s m args below meth c H1 locs1 cells slots Q (F0 m (pc + 3) ls rest)) : W p l e Rm s m args below meth c H locs cells slots Q (F0 m pc ls (.int 1 :: .ref (ag 5) :: rest)) := by
  subst hN
  refine w_put (ty := .boolean) K X iJ4 tyJ4 tyJ4_ok nmJ4 rfl (234 + 5) (pl_glb (by omega)) 2 (by omega) hl (by decide +kernel) (by decide +kernel) rfl rfl (show 2 < 4 by omega) (set_glb (by omega) ?_ ?_) hdg kk
  · rfl
  · intro d hd; simp [sg, va_up_ne _ _ hd]
theorem a_sbb (K : MC D ca p s m args meth c cc nL own) (X : RW D (wC ar ag ca P G ++ xs) H0 H locs) {x : Int32} (hin : vp_in x 16) (hdg : decode cc pc = .ok (.baload, 1))
    (kk : W p l e Rm s m args below meth c H locs cells slots Q (F0 m (pc + 1) ls (.int (G 6 x.toNatClampNeg) :: rest))) : W p l e Rm s m args below meth c H locs cells slots Q (F0 m pc ls (.int x :: .ref (ag 6) :: rest)) :=
  w_bald K X (234 + 6) (pl_glb (by omega)) hin hdg kk
theorem l_sbb (K : MC D ca p s m args meth c cc nL own) (X : RW D (wC ar ag ca P G ++ xs) H0 H locs) (hdg : decode cc pc = .ok (.arraylength, 1))
    (kk : W p l e Rm s m args below meth c H locs cells slots Q (F0 m (pc + 1) ls (.int 16 :: rest))) : W p l e Rm s m args below meth c H locs cells slots Q (F0 m pc ls (.ref (ag 6) :: rest)) :=
  w_alen (t0 := 0) (ty := .byte) K X (234 + 6) (pl_glb (by omega)) rfl rfl hdg kk
theorem s_sbb (K : MC D ca p s m args meth c cc nL own) (X : RW D (wC ar ag ca P G ++ xs) H0 H locs) {x v : Int32} (hin : vp_in x 16) (h8 : v.toInt8.toInt32 = v) (hN : G2 = sg G 6 x.toNatClampNeg v) (hdg : decode cc pc = .ok (.bastore, 1))
    (kk : ∀ (H1 : Heap) (locs1 : List Loc), RW D (wC ar ag ca P G2 ++ xs) H0 H1 locs1 → W p l e Rm s m args below meth c H1 locs1 cells slots Q (F0 m (pc + 1) ls rest)) : W p l e Rm s m args below meth c H locs cells slots Q (F0 m pc ls (.int v :: .int x :: .ref (ag 6) :: rest)) := by
  subst hN
  refine w_bast (f := G 6) K X (234 + 6) (pl_glb (by omega)) hin h8 (set_glb (by omega) ?_ ?_) hdg kk
  · simp [glbCell, sg, va_up_self]
  · intro d hd; simp [sg, va_up_ne _ _ hd]
theorem z_copy (K : MC D ca p s m args meth c cc nL own) (hZ : ZF z (AL ws0 s.heap.size) s s.heap) (X : RW D (wC ar ag ca P G ++ xs) s.heap H locs) (hf0 : (wC ar ag ca P G ++ xs).map Prod.fst = ws0.map Prod.fst) (hsz : ls.size = nL) (hi : i < 33) {dp n : Int32}
    (hc : 0 ≤ dp.toInt ∧ 0 ≤ n.toInt ∧ n.toInt ≤ (zlen i : Int) ∧ dp.toInt + n.toInt ≤ 16) (hN : G2 = va_up G 6 (va_cpy (zch i) (G 6) 0 dp.toNatClampNeg n.toNatClampNeg))
    (q1 : Cond.methodLink own idx arraycopyName ∈ lw_all) (q2 : Cond.native arraycopyName ∈ lw_all) (q3 : Cond.static arraycopyName ∈ lw_all) (q4 : Cond.initialized "java/lang/System" ∈ lw_all) (hfr : 1 ≤ Rm.frames) (hlo : (rest.map fun v => v.category).sum + (nativeFrameWords "java/lang/System" "arraycopy" 5 + 11) ≤ Rm.locals) (hdg : decode cc pc = .ok (.invokestatic idx, 3))
    (kk : ∀ (H1 : Heap) (locs1 : List Loc), RW D (wC ar ag ca P G2 ++ xs) s.heap H1 locs1 → W p l e Rm s m args below meth c H1 locs1 cells slots Q (F0 m (pc + 3) ls rest)) : W p l e Rm s m args below meth c H locs cells slots Q (F0 m pc ls (.int n :: .int dp :: .ref (ag 6) :: .int 0 :: .ref (z.2.1 i) :: rest)) := by
  have hx := K.1
  have hS := z_S X hf0
  obtain ⟨h1, h2, h3, h4⟩ := hc
  have nn : ∀ x : Int32, 0 ≤ x.toInt → x.toInt = (x.toNatClampNeg : Int) := fun x hx => by
    show x.toInt = ((x.toInt.toNat : Nat) : Int)
    omega
  have e1 := nn dp h1
  have e2 := nn n h2
  have hD : va_D (AL ws0 s.heap.size) (wC ar ag ca P G ++ xs) := AL_fst (sz := s.heap.size) hf0 ▸ X.2.1
  have hf : AL (wC ar ag ca P G ++ xs) s.heap.size = AL (wC ar ag ca P G2 ++ xs) s.heap.size := AL_fst wC_fstx
  refine vk_copyt (f := zch i) (g := G 6) (n1 := 16) (sp := 0) hx K.2.1 (K.2.2.1.trans hsz.symm) K.2.2.2.1 (K.2.2.2.2.1 _ q1) (K.2.2.2.2.1 _ q2) (K.2.2.2.2.1 _ q3) (K.2.2.2.2.1 _ q4) K.2.2.2.2.2.1 X.1 hD hS (hZ.1 i hi).2.2.2 (234 + 6) 0 (pl_glb (by omega)) rfl (by decide) (by rw [Int32.lt_iff_toInt_lt, Int32.toInt_zero]; omega) (by rw [Int32.lt_iff_toInt_lt, Int32.toInt_zero]; omega) (by simp; omega) (by omega) (fun j hj => ?_) hfr hlo hdg (fun H1 locs1 a1 a2 a3 => ?_)
  · have := zlen25 i hi
    exact zfit i hi _ (by simp; omega)
  · have hset : (wC ar ag ca P G ++ xs).set (234 + 6) (ag 6, .inl (ca 0, 16, .inl (va_cpy (zch i) (G 6) (0 : Int32).toNatClampNeg dp.toNatClampNeg n.toNatClampNeg))) = wC ar ag ca P G2 ++ xs := by
      subst hN
      refine set_glb (by omega) ?_ ?_
      · simp [glbCell, va_up_self]
      · intro d hd; simp [va_up_ne _ _ hd]
    rw [hset] at a1 a2
    exact kk H1 locs1 ⟨a1, by rw [← hf, AL_fst hf0]; exact a2, by rw [← hf, AL_fst hf0]; exact a3⟩
theorem w_nret {ws ws2 : va_W} {v : Int32} {ty : FieldType} {sz : Nat} (M : MC D ca p s m args meth c cc nL own) (hr : meth.sig.returnType = some ty) (X : RW D ws2 s.heap H locs) (hfst : ws2.map Prod.fst = ws.map Prod.fst) (hsz : s.heap.size = sz) (hn : narrow ty (.int v) = .int v) (hdg : decode cc pc = .ok (.ireturn, 1)) : W p l e Rm s m args below meth c H locs cells slots (MQ below (QMw D ws ws2 sz (some (.int v))) args s cells slots (AL ws sz)) (F0 m pc ls [.int v]) := by
  obtain ⟨hx, hb, hml, hown, hts, hK, hlk⟩ := M
  exact W.zret hx hb hr hn (fun t ht _ => w_q X hfst hsz ht) (w_l X hfst hsz) hdg hlk
theorem nar_c {v : Int32} (h : 0 ≤ v.toInt ∧ v.toInt < 65536) : narrow .char (.int v) = .int v := by
  obtain ⟨j, hj, rfl⟩ : ∃ j : Nat, j < 65536 ∧ v = nI j := by
    refine ⟨v.toInt.toNat, by omega, ?_⟩
    apply Int32.toInt_inj.mp
    rw [nI_toInt (by omega)]; omega
  exact (pk_charN hj).1
theorem g_gram4 (K : MC D ca p s m args meth c cc nL own) {gq gj r : Nat} (X : RW D (wC ar ag ca P G ++ xs) H0 H locs) (hg : xs[gj]? = some (gq, .inr (6, [.ref (ag 3), .ref (ar r 0)]))) (k : Nat) {v : Value} (hk : k < 2) (hv : ([.ref (ag 3), .ref (ar r 0)] : List Value)[k]? = some v) (hl : Cond.fieldLink own idx (TX4 k).1 (TX4 k).2.1 (TX4 k).2.2.1 ∈ lw_all) (hdg : decode cc pc = .ok (.getfield idx, 3))
    (kk : W p l e Rm s m args below meth c H locs cells slots Q (F0 m (pc + 3) ls (v :: rest))) : W p l e Rm s m args below meth c H locs cells slots Q (F0 m pc ls (.ref gq :: rest)) :=
  w_get K X iX4 rfl (241 + gj) (pl_xs.trans hg) k hk hl hv hdg kk
theorem g_gram2 (K : MC D ca p s m args meth c cc nL own) {gq gj r : Nat} (X : RW D (wC ar ag ca P G ++ xs) H0 H locs) (hg : xs[gj]? = some (gq, .inr (4, [.ref (ag 3), .ref (ar r 0)]))) (k : Nat) {v : Value} (hk : k < 2) (hv : ([.ref (ag 3), .ref (ar r 0)] : List Value)[k]? = some v) (hl : Cond.fieldLink own idx (TX2 k).1 (TX2 k).2.1 (TX2 k).2.2.1 ∈ lw_all) (hdg : decode cc pc = .ok (.getfield idx, 3))
    (kk : W p l e Rm s m args below meth c H locs cells slots Q (F0 m (pc + 3) ls (v :: rest))) : W p l e Rm s m args below meth c H locs cells slots Q (F0 m pc ls (.ref gq :: rest)) :=
  w_get K X iX2 rfl (241 + gj) (pl_xs.trans hg) k hk hl hv hdg kk
end SBR
