/-! ACCESS: fields and arrays of the class's and the model's cells, one row each -/
theorem iX0 : ∀ w ∈ u_ws RX0 TX0 3, w ∈ lw_all := by decide +kernel
theorem iX1 : ∀ w ∈ u_ws RX1 TX1 7, w ∈ lw_all := by decide +kernel
theorem iXL : ∀ w ∈ u_ws RL TL 2, w ∈ lw_all := by decide +kernel
theorem iX3 : ∀ w ∈ u_ws RX3 TX3 8, w ∈ lw_all := by decide +kernel
theorem iX4 : ∀ w ∈ u_ws RX4 TX4 2, w ∈ lw_all := by decide +kernel
theorem iX5 : ∀ w ∈ u_ws RX5 TX5 9, w ∈ lw_all := by decide +kernel
theorem iX6 : ∀ w ∈ u_ws RX6 TX6 10, w ∈ lw_all := by decide +kernel
theorem iX7 : ∀ w ∈ u_ws RX7 TX7 7, w ∈ lw_all := by decide +kernel
theorem kX6 : ∀ k, k < 10 → parseFieldDescriptor (TX6 k).2.2.1 = some .int ∧ (TX6 k).2.2.2 = false := by decide +kernel
theorem kX1i : ∀ k, k < 3 → parseFieldDescriptor (TX1 k).2.2.1 = some .int ∧ (TX1 k).2.2.2 = false := by decide +kernel
theorem kX1l : ∀ k, 3 ≤ k ∧ k < 7 → parseFieldDescriptor (TX1 k).2.2.1 = some .long ∧ (TX1 k).2.2.2 = false := by
  intro k ⟨h1, h2⟩
  rcases (by omega : k = 3 ∨ k = 4 ∨ k = 5 ∨ k = 6) with rfl | rfl | rfl | rfl <;> decide +kernel
theorem kX3i : ∀ k, k < 3 → parseFieldDescriptor (TX3 k).2.2.1 = some .int ∧ (TX3 k).2.2.2 = false := by decide +kernel
theorem kX5i : ∀ k, 1 ≤ k ∧ k < 9 → parseFieldDescriptor (TX5 k).2.2.1 = some .int ∧ (TX5 k).2.2.2 = false := by
  intro k ⟨h1, h2⟩
  rcases (by omega : k = 1 ∨ k = 2 ∨ k = 3 ∨ k = 4 ∨ k = 5 ∨ k = 6 ∨ k = 7 ∨ k = 8) with rfl | rfl | rfl | rfl | rfl | rfl | rfl | rfl <;> decide +kernel
theorem tubeFs_get {T : Nat → Int32} : ∀ k, k < 10 → (tubeFs T)[k]? = some (.int (T k)) := by
  intro k hk
  rcases (by omega : k = 0 ∨ k = 1 ∨ k = 2 ∨ k = 3 ∨ k = 4 ∨ k = 5 ∨ k = 6 ∨ k = 7 ∨ k = 8 ∨ k = 9) with rfl | rfl | rfl | rfl | rfl | rfl | rfl | rfl | rfl | rfl <;> rfl
theorem tubeFs_set {T : Nat → Int32} {v : Int32} : ∀ k, k < 10 → (tubeFs T).set k (.int v) = tubeFs (va_up T k v) := by
  intro k hk
  rcases (by omega : k = 0 ∨ k = 1 ∨ k = 2 ∨ k = 3 ∨ k = 4 ∨ k = 5 ∨ k = 6 ∨ k = 7 ∨ k = 8 ∨ k = 9) with rfl | rfl | rfl | rfl | rfl | rfl | rfl | rfl | rfl | rfl <;> rfl
theorem legFs_geti {I : Nat → Int32} {L : Nat → Int64} : ∀ k, k < 3 → (legFs I L)[k]? = some (.int (I k)) := by
  intro k hk
  rcases (by omega : k = 0 ∨ k = 1 ∨ k = 2) with rfl | rfl | rfl <;> rfl
theorem legFs_getl {I : Nat → Int32} {L : Nat → Int64} : ∀ k, 3 ≤ k ∧ k < 7 → (legFs I L)[k]? = some (.long (L k)) := by
  intro k ⟨h1, h2⟩
  rcases (by omega : k = 3 ∨ k = 4 ∨ k = 5 ∨ k = 6) with rfl | rfl | rfl | rfl <;> rfl
theorem legFs_seti {I : Nat → Int32} {L : Nat → Int64} {v : Int32} : ∀ k, k < 3 → (legFs I L).set k (.int v) = legFs (va_up I k v) L := by
  intro k hk
  rcases (by omega : k = 0 ∨ k = 1 ∨ k = 2) with rfl | rfl | rfl <;> rfl
theorem legFs_setl {I : Nat → Int32} {L : Nat → Int64} {v : Int64} : ∀ k, 3 ≤ k ∧ k < 7 → (legFs I L).set k (.long v) = legFs I (va_up L k v) := by
  intro k ⟨h1, h2⟩
  rcases (by omega : k = 3 ∨ k = 4 ∨ k = 5 ∨ k = 6) with rfl | rfl | rfl | rfl <;> rfl
theorem rowFs_geti {ar : Nat → Nat → Nat} {r : Nat} {I : Nat → Int32} : ∀ k, k < 3 → (rowFs ar r I)[k]? = some (.int (I k)) := by
  intro k hk
  rcases (by omega : k = 0 ∨ k = 1 ∨ k = 2) with rfl | rfl | rfl <;> rfl
theorem rowFs_seti {ar : Nat → Nat → Nat} {r : Nat} {I : Nat → Int32} {v : Int32} : ∀ k, k < 3 → (rowFs ar r I).set k (.int v) = rowFs ar r (va_up I k v) := by
  intro k hk
  rcases (by omega : k = 0 ∨ k = 1 ∨ k = 2) with rfl | rfl | rfl <;> rfl
theorem tokFs_geti {ag : Nat → Nat} {I : Nat → Int32} : ∀ k, 1 ≤ k ∧ k < 9 → (tokFs ag I)[k]? = some (.int (I k)) := by
  intro k ⟨h1, h2⟩
  rcases (by omega : k = 1 ∨ k = 2 ∨ k = 3 ∨ k = 4 ∨ k = 5 ∨ k = 6 ∨ k = 7 ∨ k = 8) with rfl | rfl | rfl | rfl | rfl | rfl | rfl | rfl <;> rfl
theorem tokFs_seti {ag : Nat → Nat} {I : Nat → Int32} {v : Int32} : ∀ k, 1 ≤ k ∧ k < 9 → (tokFs ag I).set k (.int v) = tokFs ag (va_up I k v) := by
  intro k ⟨h1, h2⟩
  rcases (by omega : k = 1 ∨ k = 2 ∨ k = 3 ∨ k = 4 ∨ k = 5 ∨ k = 6 ∨ k = 7 ∨ k = 8) with rfl | rfl | rfl | rfl | rfl | rfl | rfl | rfl <;> rfl
-- the levels: a row in the rows, a tube or a leg in a row
def stT (R : RowS) (c : Nat) (T : Nat → Int32) : RowS := (va_up R.1 c T, R.2)
def stL (R : RowS) (c : Nat) (L : (Nat → Int32) × (Nat → Int64)) : RowS := (va_up R.1 c L.1, va_up R.2 c L.2)
def upT (P : RowsS) (r c : Nat) (T : Nat → Int32) : RowsS := va_up P r (stT (P r) c T)
def upL (P : RowsS) (r c : Nat) (L : (Nat → Int32) × (Nat → Int64)) : RowsS := va_up P r (stL (P r) c L)
theorem up_self {α : Type} (f : Nat → α) (k : Nat) : va_up f k (f k) = f := by
  funext j; unfold va_up; split
  · next h => rw [h]
  · rfl
theorem up_up {α : Type} (f : Nat → α) (k : Nat) (v w : α) : va_up (va_up f k v) k w = va_up f k w := by
  funext j; unfold va_up; split <;> rfl
theorem upR_1 {P : RowsS} {r : Nat} {R : RowS} (c : Nat) : ((va_up P r R) r).1 c = R.1 c := by rw [va_up_self]
theorem upR_2 {P : RowsS} {r : Nat} {R : RowS} (c : Nat) : ((va_up P r R) r).2 c = R.2 c := by rw [va_up_self]
theorem upR_n {P : RowsS} {r r2 : Nat} {R : RowS} (h : r2 ≠ r) : (va_up P r R) r2 = P r2 := va_up_ne _ _ h
theorem upR_si {P : RowsS} {r c k : Nat} {R R2 : RowS} {v : Int32} (h : R2 = si R c k v) : va_up (va_up P r R) r (si ((va_up P r R) r) c k v) = va_up P r R2 := by rw [h, up_up, va_up_self]
theorem upR_sl {P : RowsS} {r c k : Nat} {R R2 : RowS} {v : Int64} (h : R2 = sl R c k v) : va_up (va_up P r R) r (sl ((va_up P r R) r) c k v) = va_up P r R2 := by rw [h, up_up, va_up_self]
theorem upT_1 {P : RowsS} {r c : Nat} {T : Nat → Int32} : ((upT P r c T) r).1 c = T := by simp [upT, stT, va_up_self]
theorem upT_si {P : RowsS} {r c k : Nat} {T T2 : Nat → Int32} {v : Int32} (h : T2 = va_up T k v) : va_up (upT P r c T) r (si ((upT P r c T) r) c k v) = upT P r c T2 := by
  subst h; simp [upT, stT, si, va_up_self, up_up]
theorem upT_self {P : RowsS} {r c : Nat} : upT P r c ((P r).1 c) = P := by simp [upT, stT, up_self]
theorem upT_R {P : RowsS} {r c : Nat} {R : RowS} {T : Nat → Int32} : upT (va_up P r R) r c T = va_up P r (stT R c T) := by simp [upT, up_up, va_up_self]
theorem upL_1 {P : RowsS} {r c : Nat} {L : (Nat → Int32) × (Nat → Int64)} : ((upL P r c L) r).1 c = L.1 := by simp [upL, stL, va_up_self]
theorem upL_2 {P : RowsS} {r c : Nat} {L : (Nat → Int32) × (Nat → Int64)} : ((upL P r c L) r).2 c = L.2 := by simp [upL, stL, va_up_self]
theorem upL_si {P : RowsS} {r c k : Nat} {L L2 : (Nat → Int32) × (Nat → Int64)} {v : Int32} (h : L2 = (va_up L.1 k v, L.2)) : va_up (upL P r c L) r (si ((upL P r c L) r) c k v) = upL P r c L2 := by
  subst h; simp [upL, stL, si, va_up_self, up_up]
theorem upL_sl {P : RowsS} {r c k : Nat} {L L2 : (Nat → Int32) × (Nat → Int64)} {v : Int64} (h : L2 = (L.1, va_up L.2 k v)) : va_up (upL P r c L) r (sl ((upL P r c L) r) c k v) = upL P r c L2 := by
  subst h; simp [upL, stL, sl, va_up_self, up_up]
theorem upL_self {P : RowsS} {r c : Nat} : upL P r c ((P r).1 c, (P r).2 c) = P := by simp [upL, stL, up_self]
theorem upL_R {P : RowsS} {r c : Nat} {R : RowS} {L : (Nat → Int32) × (Nat → Int64)} : upL (va_up P r R) r c L = va_up P r (stL R c L) := by simp [upL, up_up, va_up_self]
theorem stT_self {R : RowS} {c : Nat} : stT R c (R.1 c) = R := by simp [stT, up_self]
theorem stL_self {R : RowS} {c : Nat} : stL R c (R.1 c, R.2 c) = R := by simp [stL, up_self]
theorem upT_n {P : RowsS} {r r2 c c2 : Nat} {T : Nat → Int32} (h : r2 ≠ r ∨ c2 ≠ c) : ((upT P r c T) r2).1 c2 = (P r2).1 c2 := by
  unfold upT
  by_cases h1 : r2 = r
  · subst h1
    rcases h with h | h
    · exact absurd rfl h
    · simp [va_up_self, stT, va_up_ne _ _ h]
  · rw [va_up_ne _ _ h1]
theorem upL_n1 {P : RowsS} {r r2 c c2 : Nat} {L : (Nat → Int32) × (Nat → Int64)} (h : r2 ≠ r) : ((upL P r c L) r2).1 c2 = (P r2).1 c2 := by
  unfold upL; rw [va_up_ne _ _ h]
theorem upL_n2 {P : RowsS} {r r2 c c2 : Nat} {L : (Nat → Int32) × (Nat → Int64)} (h : r2 ≠ r) : ((upL P r c L) r2).2 c2 = (P r2).2 c2 := by
  unfold upL; rw [va_up_ne _ _ h]
section ACC
variable {p : Program} {l : Launch} {e : Env} {Rm : Room} {s : State} {m : MethodId} {args : Array Value} {below : List Frame} {meth : Method} {c : Code} {H0 H : Heap} {locs : List Loc} {cells slots : Nat} {Q : State → Prop}
variable {cc : ByteArray} {nL : Nat} {own : String} {D : va_G} {ca : Nat → ClassId} {ar : Nat → Nat → Nat} {ag : Nat → Nat} {am : Nat → Nat} {xs : va_W} {pc : Nat} {ls : Array Slot} {rest : List Value} {P P2 : RowsS} {G G2 : GlbS} {r i j idx : Nat} {I : Nat → Int32} {L : Nat → Int64} {M M2 : RowS}
theorem g_tube (K : MC D ca p s m args meth c cc nL own) (X : RW D (wC ar ag ca P G ++ xs) H0 H locs) (hr : r < 13) (hi : i < 13) (hI : (P r).1 (i + 5) = I) (k : Nat) (hk : k < 10) (hl : Cond.fieldLink own idx (TX6 k).1 (TX6 k).2.1 (TX6 k).2.2.1 ∈ lw_all) (hdg : decode cc pc = .ok (.getfield idx, 3))
    (kk : W p l e Rm s m args below meth c H locs cells slots Q (F0 m (pc + 3) ls (.int (I k) :: rest))) : W p l e Rm s m args below meth c H locs cells slots Q (F0 m pc ls (.ref (ar r (i + 5)) :: rest)) := by
  subst hI
  exact w_get K X iX6 rfl (18 * r + (i + 5)) (pl_row hr (by omega)) k hk hl (tubeFs_get k hk) hdg kk
theorem p_tube (K : MC D ca p s m args meth c cc nL own) (X : RW D (wC ar ag ca P G ++ xs) H0 H locs) (hr : r < 13) (hi : i < 13) (k : Nat) (hk : k < 10) {v : Int32} (hN : va_up P r (si (P r) (i + 5) k v) = P2) (hl : Cond.fieldLink own idx (TX6 k).1 (TX6 k).2.1 (TX6 k).2.2.1 ∈ lw_all) (hdg : decode cc pc = .ok (.putfield idx, 3))
    (kk : ∀ (H1 : Heap) (locs1 : List Loc), RW D (wC ar ag ca P2 G ++ xs) H0 H1 locs1 → W p l e Rm s m args below meth c H1 locs1 cells slots Q (F0 m (pc + 3) ls rest)) : W p l e Rm s m args below meth c H locs cells slots Q (F0 m pc ls (.int v :: .ref (ar r (i + 5)) :: rest)) := by
  subst hN
  refine w_put K X iX6 tyX6 tyX6_ok nmX6 rfl (18 * r + (i + 5)) (pl_row hr (by omega)) k hk hl (kX6 k hk).2 (kX6 k hk).1 rfl rfl hk (set_row hr (by omega) ?_ ?_ ?_) hdg kk
  · show Sum.inr (8, tubeFs _) = _
    rw [si, tubeFs_set k hk]; simp [va_up_self]
  · intro d hd; simp [si, va_up_ne _ _ hd]
  · intro d hd; rfl
theorem g_legi (K : MC D ca p s m args meth c cc nL own) (X : RW D (wC ar ag ca P G ++ xs) H0 H locs) (hr : r < 13) (hj : j < 2) (hI : (P r).1 (j + 2) = I) (k : Nat) (hk : k < 3) (hl : Cond.fieldLink own idx (TX1 k).1 (TX1 k).2.1 (TX1 k).2.2.1 ∈ lw_all) (hdg : decode cc pc = .ok (.getfield idx, 3))
    (kk : W p l e Rm s m args below meth c H locs cells slots Q (F0 m (pc + 3) ls (.int (I k) :: rest))) : W p l e Rm s m args below meth c H locs cells slots Q (F0 m pc ls (.ref (ar r (j + 2)) :: rest)) := by
  subst hI
  refine w_get (ci := 3) K X iX1 rfl (18 * r + (j + 2)) ?_ k (by omega) hl (legFs_geti (L := (P r).2 (j + 2)) k hk) hdg kk
  rw [pl_row hr (by omega)]
  rcases (by omega : j = 0 ∨ j = 1) with rfl | rfl <;> rfl
theorem g_legl (K : MC D ca p s m args meth c cc nL own) (X : RW D (wC ar ag ca P G ++ xs) H0 H locs) (hr : r < 13) (hj : j < 2) (hI : (P r).2 (j + 2) = L) (k : Nat) (hk : 3 ≤ k ∧ k < 7) (hl : Cond.fieldLink own idx (TX1 k).1 (TX1 k).2.1 (TX1 k).2.2.1 ∈ lw_all) (hdg : decode cc pc = .ok (.getfield idx, 3))
    (kk : W p l e Rm s m args below meth c H locs cells slots Q (F0 m (pc + 3) ls (.long (L k) :: rest))) : W p l e Rm s m args below meth c H locs cells slots Q (F0 m pc ls (.ref (ar r (j + 2)) :: rest)) := by
  subst hI
  refine w_get (ci := 3) K X iX1 rfl (18 * r + (j + 2)) ?_ k (by omega) hl (legFs_getl (I := (P r).1 (j + 2)) k hk) hdg kk
  rw [pl_row hr (by omega)]
  rcases (by omega : j = 0 ∨ j = 1) with rfl | rfl <;> rfl
theorem p_legi (K : MC D ca p s m args meth c cc nL own) (X : RW D (wC ar ag ca P G ++ xs) H0 H locs) (hr : r < 13) (hj : j < 2) (k : Nat) (hk : k < 3) {v : Int32} (hN : va_up P r (si (P r) (j + 2) k v) = P2) (hl : Cond.fieldLink own idx (TX1 k).1 (TX1 k).2.1 (TX1 k).2.2.1 ∈ lw_all) (hdg : decode cc pc = .ok (.putfield idx, 3))
    (kk : ∀ (H1 : Heap) (locs1 : List Loc), RW D (wC ar ag ca P2 G ++ xs) H0 H1 locs1 → W p l e Rm s m args below meth c H1 locs1 cells slots Q (F0 m (pc + 3) ls rest)) : W p l e Rm s m args below meth c H locs cells slots Q (F0 m pc ls (.int v :: .ref (ar r (j + 2)) :: rest)) := by
  subst hN
  refine w_put (ci := 3) (fs := legFs ((P r).1 (j + 2)) ((P r).2 (j + 2))) K X iX1 tyX1 tyX1_ok nmX1 rfl (18 * r + (j + 2)) ?_ k (by omega) hl (kX1i k hk).2 (kX1i k hk).1 rfl rfl (show k < 7 by omega) (set_row hr (by omega) ?_ ?_ ?_) hdg kk
  · rw [pl_row hr (by omega)]
    rcases (by omega : j = 0 ∨ j = 1) with rfl | rfl <;> rfl
  · rw [legFs_seti k hk]
    rcases (by omega : j = 0 ∨ j = 1) with rfl | rfl <;> simp [rowCell, si, va_up_self]
  · intro d hd; simp [si, va_up_ne _ _ hd]
  · intro d hd; rfl
theorem p_legl (K : MC D ca p s m args meth c cc nL own) (X : RW D (wC ar ag ca P G ++ xs) H0 H locs) (hr : r < 13) (hj : j < 2) (k : Nat) (hk : 3 ≤ k ∧ k < 7) {v : Int64} (hN : va_up P r (sl (P r) (j + 2) k v) = P2) (hl : Cond.fieldLink own idx (TX1 k).1 (TX1 k).2.1 (TX1 k).2.2.1 ∈ lw_all) (hdg : decode cc pc = .ok (.putfield idx, 3))
    (kk : ∀ (H1 : Heap) (locs1 : List Loc), RW D (wC ar ag ca P2 G ++ xs) H0 H1 locs1 → W p l e Rm s m args below meth c H1 locs1 cells slots Q (F0 m (pc + 3) ls rest)) : W p l e Rm s m args below meth c H locs cells slots Q (F0 m pc ls (.long v :: .ref (ar r (j + 2)) :: rest)) := by
  subst hN
  refine w_put (ci := 3) (fs := legFs ((P r).1 (j + 2)) ((P r).2 (j + 2))) K X iX1 tyX1 tyX1_ok nmX1 rfl (18 * r + (j + 2)) ?_ k (by omega) hl (kX1l k hk).2 (kX1l k hk).1 rfl rfl (show k < 7 by omega) (set_row hr (by omega) ?_ ?_ ?_) hdg kk
  · rw [pl_row hr (by omega)]
    rcases (by omega : j = 0 ∨ j = 1) with rfl | rfl <;> rfl
  · rw [legFs_setl k hk]
    rcases (by omega : j = 0 ∨ j = 1) with rfl | rfl <;> simp [rowCell, sl, va_up_self]
  · intro d hd; rfl
  · intro d hd; simp [sl, va_up_ne _ _ hd]
theorem g_rowi (K : MC D ca p s m args meth c cc nL own) (X : RW D (wC ar ag ca P G ++ xs) H0 H locs) (hr : r < 13) (hI : (P r).1 0 = I) (k : Nat) (hk : k < 3) (hl : Cond.fieldLink own idx (TX3 k).1 (TX3 k).2.1 (TX3 k).2.2.1 ∈ lw_all) (hdg : decode cc pc = .ok (.getfield idx, 3))
    (kk : W p l e Rm s m args below meth c H locs cells slots Q (F0 m (pc + 3) ls (.int (I k) :: rest))) : W p l e Rm s m args below meth c H locs cells slots Q (F0 m pc ls (.ref (ar r 0) :: rest)) := by
  subst hI
  exact w_get K X iX3 rfl (18 * r + 0) (pl_row hr (by omega)) k (by omega) hl (rowFs_geti k hk) hdg kk
theorem g_rowr (K : MC D ca p s m args meth c cc nL own) (X : RW D (wC ar ag ca P G ++ xs) H0 H locs) (hr : r < 13) (k d : Nat) (hk : (3 ≤ k ∧ k < 7 ∧ d = k - 2) ∨ (k = 7 ∧ d = 17)) (hl : Cond.fieldLink own idx (TX3 k).1 (TX3 k).2.1 (TX3 k).2.2.1 ∈ lw_all) (hdg : decode cc pc = .ok (.getfield idx, 3))
    (kk : W p l e Rm s m args below meth c H locs cells slots Q (F0 m (pc + 3) ls (.ref (ar r d) :: rest))) : W p l e Rm s m args below meth c H locs cells slots Q (F0 m pc ls (.ref (ar r 0) :: rest)) := by
  refine w_get K X iX3 rfl (18 * r + 0) (pl_row hr (by omega)) k (by omega) hl ?_ hdg kk
  rcases (by omega : (k = 3 ∧ d = 1) ∨ (k = 4 ∧ d = 2) ∨ (k = 5 ∧ d = 3) ∨ (k = 6 ∧ d = 4) ∨ (k = 7 ∧ d = 17)) with ⟨rfl, rfl⟩ | ⟨rfl, rfl⟩ | ⟨rfl, rfl⟩ | ⟨rfl, rfl⟩ | ⟨rfl, rfl⟩ <;> rfl
theorem p_rowi (K : MC D ca p s m args meth c cc nL own) (X : RW D (wC ar ag ca P G ++ xs) H0 H locs) (hr : r < 13) (k : Nat) (hk : k < 3) {v : Int32} (hN : va_up P r (si (P r) 0 k v) = P2) (hl : Cond.fieldLink own idx (TX3 k).1 (TX3 k).2.1 (TX3 k).2.2.1 ∈ lw_all) (hdg : decode cc pc = .ok (.putfield idx, 3))
    (kk : ∀ (H1 : Heap) (locs1 : List Loc), RW D (wC ar ag ca P2 G ++ xs) H0 H1 locs1 → W p l e Rm s m args below meth c H1 locs1 cells slots Q (F0 m (pc + 3) ls rest)) : W p l e Rm s m args below meth c H locs cells slots Q (F0 m pc ls (.int v :: .ref (ar r 0) :: rest)) := by
  subst hN
  refine w_put K X iX3 tyX3 tyX3_ok nmX3 rfl (18 * r + 0) (pl_row hr (by omega)) k (by omega) hl (kX3i k hk).2 (kX3i k hk).1 rfl rfl (show k < 8 by omega) (set_row hr (by omega) ?_ ?_ ?_) hdg kk
  · rw [rowFs_seti k hk]; simp [rowCell, si, va_up_self]
  · intro d hd; simp [si, va_up_ne _ _ hd]
  · intro d hd; rfl
theorem a_press (K : MC D ca p s m args meth c cc nL own) (X : RW D (wC ar ag ca P G ++ xs) H0 H locs) (hr : r < 13) (hI : (P r).1 1 = I) {x : Int32} (hin : vp_in x 8) (hdg : decode cc pc = .ok (.iaload, 1))
    (kk : W p l e Rm s m args below meth c H locs cells slots Q (F0 m (pc + 1) ls (.int (I x.toNatClampNeg) :: rest))) : W p l e Rm s m args below meth c H locs cells slots Q (F0 m pc ls (.int x :: .ref (ar r 1) :: rest)) := by
  subst hI
  exact w_iald K X (18 * r + 1) (pl_row hr (by omega)) hin hdg kk
theorem l_press (K : MC D ca p s m args meth c cc nL own) (X : RW D (wC ar ag ca P G ++ xs) H0 H locs) (hr : r < 13) (hdg : decode cc pc = .ok (.arraylength, 1))
    (kk : W p l e Rm s m args below meth c H locs cells slots Q (F0 m (pc + 1) ls (.int 8 :: rest))) : W p l e Rm s m args below meth c H locs cells slots Q (F0 m pc ls (.ref (ar r 1) :: rest)) :=
  w_alen (t0 := 1) (ty := .int) K X (18 * r + 1) (pl_row hr (by omega)) rfl rfl hdg kk
theorem s_press (K : MC D ca p s m args meth c cc nL own) (X : RW D (wC ar ag ca P G ++ xs) H0 H locs) (hr : r < 13) {x v : Int32} (hin : vp_in x 8) (hN : va_up P r (si (P r) 1 x.toNatClampNeg v) = P2) (hdg : decode cc pc = .ok (.iastore, 1))
    (kk : ∀ (H1 : Heap) (locs1 : List Loc), RW D (wC ar ag ca P2 G ++ xs) H0 H1 locs1 → W p l e Rm s m args below meth c H1 locs1 cells slots Q (F0 m (pc + 1) ls rest)) : W p l e Rm s m args below meth c H locs cells slots Q (F0 m pc ls (.int v :: .int x :: .ref (ar r 1) :: rest)) := by
  subst hN
  refine w_iast (f := (P r).1 1) K X (18 * r + 1) (pl_row hr (by omega)) hin (set_row hr (by omega) ?_ ?_ ?_) hdg kk
  · simp [rowCell, si, va_up_self]
  · intro d hd; simp [si, va_up_ne _ _ hd]
  · intro d hd; rfl
theorem a_tubes (K : MC D ca p s m args meth c cc nL own) (X : RW D (wC ar ag ca P G ++ xs) H0 H locs) (hr : r < 13) {x : Int32} (hin : vp_in x 12) (hdg : decode cc pc = .ok (.aaload, 1))
    (kk : W p l e Rm s m args below meth c H locs cells slots Q (F0 m (pc + 1) ls (.ref (ar r (x.toNatClampNeg + 5)) :: rest))) : W p l e Rm s m args below meth c H locs cells slots Q (F0 m pc ls (.int x :: .ref (ar r 4) :: rest)) :=
  w_aald (f := fun j => ar r (j + 5)) (C := "SlantGauges$Tube") K X (18 * r + 4) (pl_row hr (by omega)) rfl hin hdg kk
theorem l_tubes (K : MC D ca p s m args meth c cc nL own) (X : RW D (wC ar ag ca P G ++ xs) H0 H locs) (hr : r < 13) (hdg : decode cc pc = .ok (.arraylength, 1))
    (kk : W p l e Rm s m args below meth c H locs cells slots Q (F0 m (pc + 1) ls (.int 12 :: rest))) : W p l e Rm s m args below meth c H locs cells slots Q (F0 m pc ls (.ref (ar r 4) :: rest)) :=
  w_alen (t0 := 4) (ty := .object "SlantGauges$Tube") K X (18 * r + 4) (pl_row hr (by omega)) rfl rfl hdg kk
theorem in_lt {x : Int32} {n : Nat} (h : vp_in x n) : x.toNatClampNeg < n := Nat.not_le.mp fun q => h (Or.inr q)
-- cells of their own
theorem g_objr (K : MC D ca p s m args meth c cc nL own) (X : RW D (wC ar ag ca P G ++ xs) H0 H locs) (k : Nat) {v : Value} (hk : k < 6) (hv : (objFs ar ag (G 0))[k]? = some v) (hl : Cond.fieldLink own idx (TX7 k).1 (TX7 k).2.1 (TX7 k).2.2.1 ∈ lw_all) (hdg : decode cc pc = .ok (.getfield idx, 3))
    (kk : W p l e Rm s m args below meth c H locs cells slots Q (F0 m (pc + 3) ls (v :: rest))) : W p l e Rm s m args below meth c H locs cells slots Q (F0 m pc ls (.ref (ag 0) :: rest)) :=
  w_get K X iX7 rfl (234 + 0) (pl_glb (by omega)) k (by omega) hl hv hdg kk
theorem g_obji (K : MC D ca p s m args meth c cc nL own) (X : RW D (wC ar ag ca P G ++ xs) H0 H locs) (hl : Cond.fieldLink own idx (TX7 6).1 (TX7 6).2.1 (TX7 6).2.2.1 ∈ lw_all) (hdg : decode cc pc = .ok (.getfield idx, 3))
    (kk : W p l e Rm s m args below meth c H locs cells slots Q (F0 m (pc + 3) ls (.int (G 0 6) :: rest))) : W p l e Rm s m args below meth c H locs cells slots Q (F0 m pc ls (.ref (ag 0) :: rest)) :=
  w_get K X iX7 rfl (234 + 0) (pl_glb (by omega)) 6 (by omega) hl rfl hdg kk
theorem p_objz (K : MC D ca p s m args meth c cc nL own) (X : RW D (wC ar ag ca P G ++ xs) H0 H locs) {v : Int32} (hn : v = 0 ∨ v = 1) (hN : G2 = sg G 0 6 v) (hl : Cond.fieldLink own idx (TX7 6).1 (TX7 6).2.1 (TX7 6).2.2.1 ∈ lw_all) (hdg : decode cc pc = .ok (.putfield idx, 3))
    (kk : ∀ (H1 : Heap) (locs1 : List Loc), RW D (wC ar ag ca P G2 ++ xs) H0 H1 locs1 → W p l e Rm s m args below meth c H1 locs1 cells slots Q (F0 m (pc + 3) ls rest)) : W p l e Rm s m args below meth c H locs cells slots Q (F0 m pc ls (.int v :: .ref (ag 0) :: rest)) := by
  subst hN
  refine w_put (ty := .boolean) K X iX7 tyX7 tyX7_ok nmX7 rfl (234 + 0) (pl_glb (by omega)) 6 (by omega) hl (by decide +kernel) (by decide +kernel) (by rcases hn with rfl | rfl <;> rfl) ?_ (show 6 < 7 by omega) (set_glb (by omega) ?_ ?_) hdg kk
  · rcases hn with rfl | rfl <;> rfl
  · rfl
  · intro d hd; simp [sg, va_up_ne _ _ hd]
theorem g_hisr (K : MC D ca p s m args meth c cc nL own) (X : RW D (wC ar ag ca P G ++ xs) H0 H locs) (hl : Cond.fieldLink own idx (TX0 0).1 (TX0 0).2.1 (TX0 0).2.2.1 ∈ lw_all) (hdg : decode cc pc = .ok (.getfield idx, 3))
    (kk : W p l e Rm s m args below meth c H locs cells slots Q (F0 m (pc + 3) ls (.ref (ag 2) :: rest))) : W p l e Rm s m args below meth c H locs cells slots Q (F0 m pc ls (.ref (ag 1) :: rest)) :=
  w_get K X iX0 rfl (234 + 1) (pl_glb (by omega)) 0 (by omega) hl rfl hdg kk
theorem g_hisi (K : MC D ca p s m args meth c cc nL own) (X : RW D (wC ar ag ca P G ++ xs) H0 H locs) (k : Nat) (hk : k = 1 ∨ k = 2) (hl : Cond.fieldLink own idx (TX0 k).1 (TX0 k).2.1 (TX0 k).2.2.1 ∈ lw_all) (hdg : decode cc pc = .ok (.getfield idx, 3))
    (kk : W p l e Rm s m args below meth c H locs cells slots Q (F0 m (pc + 3) ls (.int (G 1 k) :: rest))) : W p l e Rm s m args below meth c H locs cells slots Q (F0 m pc ls (.ref (ag 1) :: rest)) := by
  refine w_get K X iX0 rfl (234 + 1) (pl_glb (by omega)) k (by omega) hl ?_ hdg kk
  rcases hk with rfl | rfl <;> rfl
theorem p_hisi (K : MC D ca p s m args meth c cc nL own) (X : RW D (wC ar ag ca P G ++ xs) H0 H locs) (k : Nat) (hk : k = 1 ∨ k = 2) {v : Int32} (hN : G2 = sg G 1 k v) (hl : Cond.fieldLink own idx (TX0 k).1 (TX0 k).2.1 (TX0 k).2.2.1 ∈ lw_all) (hdg : decode cc pc = .ok (.putfield idx, 3))
    (kk : ∀ (H1 : Heap) (locs1 : List Loc), RW D (wC ar ag ca P G2 ++ xs) H0 H1 locs1 → W p l e Rm s m args below meth c H1 locs1 cells slots Q (F0 m (pc + 3) ls rest)) : W p l e Rm s m args below meth c H locs cells slots Q (F0 m pc ls (.int v :: .ref (ag 1) :: rest)) := by
  subst hN
  rcases hk with rfl | rfl
  all_goals
    refine w_put (ty := .int) K X iX0 tyX0 tyX0_ok nmX0 rfl (234 + 1) (pl_glb (by omega)) _ (by omega) hl (by decide +kernel) (by decide +kernel) rfl rfl (show _ < 3 by omega) (set_glb (by omega) ?_ ?_) hdg kk
    · rfl
    · intro d hd; simp [sg, va_up_ne _ _ hd]
theorem a_rows (K : MC D ca p s m args meth c cc nL own) (X : RW D (wC ar ag ca P G ++ xs) H0 H locs) {x : Int32} (hin : vp_in x 10) (hdg : decode cc pc = .ok (.aaload, 1))
    (kk : W p l e Rm s m args below meth c H locs cells slots Q (F0 m (pc + 1) ls (.ref (ar (x.toNatClampNeg + 3) 0) :: rest))) : W p l e Rm s m args below meth c H locs cells slots Q (F0 m pc ls (.int x :: .ref (ag 2) :: rest)) :=
  w_aald (f := fun j => ar (j + 3) 0) (C := "SlantGauges$Row") K X (234 + 2) (pl_glb (by omega)) rfl hin hdg kk
theorem l_rows (K : MC D ca p s m args meth c cc nL own) (X : RW D (wC ar ag ca P G ++ xs) H0 H locs) (hdg : decode cc pc = .ok (.arraylength, 1))
    (kk : W p l e Rm s m args below meth c H locs cells slots Q (F0 m (pc + 1) ls (.int 10 :: rest))) : W p l e Rm s m args below meth c H locs cells slots Q (F0 m pc ls (.ref (ag 2) :: rest)) :=
  w_alen (t0 := 3) (ty := .object "SlantGauges$Row") K X (234 + 2) (pl_glb (by omega)) rfl rfl hdg kk
theorem g_tokr (K : MC D ca p s m args meth c cc nL own) (X : RW D (wC ar ag ca P G ++ xs) H0 H locs) (hl : Cond.fieldLink own idx (TX5 0).1 (TX5 0).2.1 (TX5 0).2.2.1 ∈ lw_all) (hdg : decode cc pc = .ok (.getfield idx, 3))
    (kk : W p l e Rm s m args below meth c H locs cells slots Q (F0 m (pc + 3) ls (.ref (ag 4) :: rest))) : W p l e Rm s m args below meth c H locs cells slots Q (F0 m pc ls (.ref (ag 3) :: rest)) :=
  w_get K X iX5 rfl (234 + 3) (pl_glb (by omega)) 0 (by omega) hl rfl hdg kk
theorem g_toki (K : MC D ca p s m args meth c cc nL own) (X : RW D (wC ar ag ca P G ++ xs) H0 H locs) (k : Nat) (hk : 1 ≤ k ∧ k < 9) (hl : Cond.fieldLink own idx (TX5 k).1 (TX5 k).2.1 (TX5 k).2.2.1 ∈ lw_all) (hdg : decode cc pc = .ok (.getfield idx, 3))
    (kk : W p l e Rm s m args below meth c H locs cells slots Q (F0 m (pc + 3) ls (.int (G 3 k) :: rest))) : W p l e Rm s m args below meth c H locs cells slots Q (F0 m pc ls (.ref (ag 3) :: rest)) :=
  w_get K X iX5 rfl (234 + 3) (pl_glb (by omega)) k (by omega) hl (tokFs_geti k hk) hdg kk
theorem p_toki (K : MC D ca p s m args meth c cc nL own) (X : RW D (wC ar ag ca P G ++ xs) H0 H locs) (k : Nat) (hk : 1 ≤ k ∧ k < 9) {v : Int32} (hN : G2 = sg G 3 k v) (hl : Cond.fieldLink own idx (TX5 k).1 (TX5 k).2.1 (TX5 k).2.2.1 ∈ lw_all) (hdg : decode cc pc = .ok (.putfield idx, 3))
    (kk : ∀ (H1 : Heap) (locs1 : List Loc), RW D (wC ar ag ca P G2 ++ xs) H0 H1 locs1 → W p l e Rm s m args below meth c H1 locs1 cells slots Q (F0 m (pc + 3) ls rest)) : W p l e Rm s m args below meth c H locs cells slots Q (F0 m pc ls (.int v :: .ref (ag 3) :: rest)) := by
  subst hN
  refine w_put (ty := .int) K X iX5 tyX5 tyX5_ok nmX5 rfl (234 + 3) (pl_glb (by omega)) k (by omega) hl (kX5i k hk).2 (kX5i k hk).1 rfl rfl (show k < 9 by omega) (set_glb (by omega) ?_ ?_) hdg kk
  · rw [tokFs_seti k hk]; simp [glbCell, sg, va_up_self]
  · intro d hd; simp [sg, va_up_ne _ _ hd]
theorem a_bytes (K : MC D ca p s m args meth c cc nL own) (X : RW D (wC ar ag ca P G ++ xs) H0 H locs) {x : Int32} (hin : vp_in x 600) (hdg : decode cc pc = .ok (.baload, 1))
    (kk : W p l e Rm s m args below meth c H locs cells slots Q (F0 m (pc + 1) ls (.int (G 4 x.toNatClampNeg) :: rest))) : W p l e Rm s m args below meth c H locs cells slots Q (F0 m pc ls (.int x :: .ref (ag 4) :: rest)) :=
  w_bald K X (234 + 4) (pl_glb (by omega)) hin hdg kk
theorem l_bytes (K : MC D ca p s m args meth c cc nL own) (X : RW D (wC ar ag ca P G ++ xs) H0 H locs) (hdg : decode cc pc = .ok (.arraylength, 1))
    (kk : W p l e Rm s m args below meth c H locs cells slots Q (F0 m (pc + 1) ls (.int 600 :: rest))) : W p l e Rm s m args below meth c H locs cells slots Q (F0 m pc ls (.ref (ag 4) :: rest)) :=
  w_alen (t0 := 0) (ty := .byte) K X (234 + 4) (pl_glb (by omega)) rfl rfl hdg kk
theorem s_bytes (K : MC D ca p s m args meth c cc nL own) (X : RW D (wC ar ag ca P G ++ xs) H0 H locs) {x v : Int32} (hin : vp_in x 600) (h8 : v.toInt8.toInt32 = v) (hN : G2 = sg G 4 x.toNatClampNeg v) (hdg : decode cc pc = .ok (.bastore, 1))
    (kk : ∀ (H1 : Heap) (locs1 : List Loc), RW D (wC ar ag ca P G2 ++ xs) H0 H1 locs1 → W p l e Rm s m args below meth c H1 locs1 cells slots Q (F0 m (pc + 1) ls rest)) : W p l e Rm s m args below meth c H locs cells slots Q (F0 m pc ls (.int v :: .int x :: .ref (ag 4) :: rest)) := by
  subst hN
  refine w_bast (f := G 4) K X (234 + 4) (pl_glb (by omega)) hin h8 (set_glb (by omega) ?_ ?_) hdg kk
  · simp [glbCell, sg, va_up_self]
  · intro d hd; simp [sg, va_up_ne _ _ hd]
theorem g_lawr (K : MC D ca p s m args meth c cc nL own) (X : RW D (wC ar ag ca P G ++ xs) H0 H locs) (hl : Cond.fieldLink own idx (TL 0).1 (TL 0).2.1 (TL 0).2.2.1 ∈ lw_all) (hdg : decode cc pc = .ok (.getfield idx, 3))
    (kk : W p l e Rm s m args below meth c H locs cells slots Q (F0 m (pc + 3) ls (.ref (ag 8) :: rest))) : W p l e Rm s m args below meth c H locs cells slots Q (F0 m pc ls (.ref (ag 7) :: rest)) :=
  w_get K X iXL rfl (234 + 7) (pl_glb (by omega)) 0 (by omega) hl rfl hdg kk
theorem g_lawi (K : MC D ca p s m args meth c cc nL own) (X : RW D (wC ar ag ca P G ++ xs) H0 H locs) (hl : Cond.fieldLink own idx (TL 1).1 (TL 1).2.1 (TL 1).2.2.1 ∈ lw_all) (hdg : decode cc pc = .ok (.getfield idx, 3))
    (kk : W p l e Rm s m args below meth c H locs cells slots Q (F0 m (pc + 3) ls (.int (G 7 1) :: rest))) : W p l e Rm s m args below meth c H locs cells slots Q (F0 m pc ls (.ref (ag 7) :: rest)) :=
  w_get K X iXL rfl (234 + 7) (pl_glb (by omega)) 1 (by omega) hl rfl hdg kk
theorem p_lawi (K : MC D ca p s m args meth c cc nL own) (X : RW D (wC ar ag ca P G ++ xs) H0 H locs) {v : Int32} (hN : G2 = sg G 7 1 v) (hl : Cond.fieldLink own idx (TL 1).1 (TL 1).2.1 (TL 1).2.2.1 ∈ lw_all) (hdg : decode cc pc = .ok (.putfield idx, 3))
    (kk : ∀ (H1 : Heap) (locs1 : List Loc), RW D (wC ar ag ca P G2 ++ xs) H0 H1 locs1 → W p l e Rm s m args below meth c H1 locs1 cells slots Q (F0 m (pc + 3) ls rest)) : W p l e Rm s m args below meth c H locs cells slots Q (F0 m pc ls (.int v :: .ref (ag 7) :: rest)) := by
  subst hN
  refine w_put (ty := .int) K X iXL tyL tyL_ok nmL rfl (234 + 7) (pl_glb (by omega)) 1 (by omega) hl (by decide +kernel) (by decide +kernel) rfl rfl (show 1 < 2 by omega) (set_glb (by omega) ?_ ?_) hdg kk
  · rfl
  · intro d hd; simp [sg, va_up_ne _ _ hd]
theorem a_text (K : MC D ca p s m args meth c cc nL own) (X : RW D (wC ar ag ca P G ++ xs) H0 H locs) {x : Int32} (hin : vp_in x 700) (hdg : decode cc pc = .ok (.iaload, 1))
    (kk : W p l e Rm s m args below meth c H locs cells slots Q (F0 m (pc + 1) ls (.int (G 8 x.toNatClampNeg) :: rest))) : W p l e Rm s m args below meth c H locs cells slots Q (F0 m pc ls (.int x :: .ref (ag 8) :: rest)) :=
  w_iald K X (234 + 8) (pl_glb (by omega)) hin hdg kk
theorem s_text (K : MC D ca p s m args meth c cc nL own) (X : RW D (wC ar ag ca P G ++ xs) H0 H locs) {x v : Int32} (hin : vp_in x 700) (hN : G2 = sg G 8 x.toNatClampNeg v) (hdg : decode cc pc = .ok (.iastore, 1))
    (kk : ∀ (H1 : Heap) (locs1 : List Loc), RW D (wC ar ag ca P G2 ++ xs) H0 H1 locs1 → W p l e Rm s m args below meth c H1 locs1 cells slots Q (F0 m (pc + 1) ls rest)) : W p l e Rm s m args below meth c H locs cells slots Q (F0 m pc ls (.int v :: .int x :: .ref (ag 8) :: rest)) := by
  subst hN
  refine w_iast (f := G 8) K X (234 + 8) (pl_glb (by omega)) hin (set_glb (by omega) ?_ ?_) hdg kk
  · simp [glbCell, sg, va_up_self]
  · intro d hd; simp [sg, va_up_ne _ _ hd]
end ACC
