/-! MORE ROWS: calls that make nothing; Math; places of receivers -/
def jmax (x y : Int32) : Int32 := if x < y then y else x
def jmin (x y : Int32) : Int32 := if y < x then y else x
def jabs (x : Int32) : Int32 := if 0 ≤ x then x else 0 - x
def lmax (x y : Int64) : Int64 := if y < x then x else y
def lmin (x y : Int64) : Int64 := if y < x then y else x
theorem b2i_dec {x : Int32} (h : x = 0 ∨ x = 1) : b2i (decide (x = 1)) = x := by rcases h with rfl | rfl <;> decide
theorem b8_8 (x : Int32) : x.toInt8.toInt32.toInt8.toInt32 = x.toInt8.toInt32 := by simp
theorem in_lt12 {x : Int32} (h : vp_in x 12) : x.toNatClampNeg < 13 := Nat.lt_succ_of_lt (in_lt h)
theorem in_lt13 {x : Int32} (h : vp_in x 10) : x.toNatClampNeg + 3 < 13 := Nat.add_lt_add_right (in_lt h) 3
section MORE
variable {p : Program} {l : Launch} {e : Env} {Rm : Room} {s : State} {m : MethodId} {args : Array Value} {below : List Frame} {meth : Method} {c : Code} {H0 H : Heap} {locs : List Loc} {cells slots : Nat} {Q : State → Prop}
variable {cc : ByteArray} {nL : Nat} {own : String} {D : va_G} {ca : Nat → ClassId} {ar : Nat → Nat → Nat} {ag : Nat → Nat} {am : Nat → Nat} {xs ws ws2 : va_W} {pc : Nat} {ls : Array Slot} {rest : List Value} {P P2 : RowsS} {G G2 : GlbS} {r i j idx : Nat}
theorem pl_tube (hr : r < 13) (hi : i < 13) : (wC ar ag ca P G ++ xs)[18 * r + (i + 5)]? = some (ar r (i + 5), .inr (8, tubeFs ((P r).1 (i + 5)))) := pl_row hr (by omega)
theorem pl_leg (hr : r < 13) (hj : j < 2) : (wC ar ag ca P G ++ xs)[18 * r + (j + 2)]? = some (ar r (j + 2), .inr (3, legFs ((P r).1 (j + 2)) ((P r).2 (j + 2)))) := by
  rw [pl_row hr (by omega)]
  rcases (by omega : j = 0 ∨ j = 1) with rfl | rfl <;> rfl
theorem pl_rowo (hr : r < 13) : (wC ar ag ca P G ++ xs)[18 * r + 0]? = some (ar r 0, .inr (5, rowFs ar r ((P r).1 0))) := pl_row hr (by omega)
theorem w_callV0 {y : MethodName} {cc' : ByteArray} {nL' idx ci q0 b : Nat} {ret' : Option FieldType} {rm' : Room} {C : String} {v : Option Value} {As st st' : List Value} {qc : vw_C} {fs : List Value} (M : MC D ca p s m args meth c cc nL own) (X : RW D ws H0 H locs) (hfst : ws2.map Prod.fst = ws.map Prod.fst)
    (hM : Met l y (ws_ y cc' nL' ret') rm' (PCw D ca ws H.size (.ref b :: As)) (QMw D ws ws2 H.size v) 0 0 (AL ws H.size)) (hsz : ls.size = nL) (n : Nat) (q1 : Cond.methodLink own idx y ∈ lw_all) (q2 : Cond.instanceMethod y ∈ lw_all) (q3 : Cond.selects C y y ∈ lw_all) (q4 : Cond.initialized C ∈ lw_all) (q5 : Cond.code y cc' nL' ret' ∈ lw_all)
    (hd : y.cls = C ∧ y.cls ≠ "java/lang/invoke/MethodHandle" ∧ y.cls ≠ "java/lang/invoke/VarHandle" ∧ (parseMethodDescriptor y.desc).map (fun d => d.parameters.length) = some n) (hR : (rm'.frames + 1 ≤ Rm.frames ∧ 8 + (nL' + 11) + rm'.locals ≤ Rm.locals) ∧ (rm'.cells = 0 ∧ rm'.slots = 0))
    (he : ws[q0]? = some (b, .inr (ci, fs))) (hc : vwCl[ci]? = some qc) (hqc : qc.1 = C) (hn : As.length = n) (hst0 : st = As.reverse ++ .ref b :: rest) (hcat : (rest.map fun v => v.category).sum ≤ 8) (hdg : decode cc pc = .ok (.invokevirtual idx, 3)) (hf : cells ≤ Rm.cells ∧ slots ≤ Rm.slots) (hst : v.toList ++ rest = st')
    (kk : ∀ (H1 : Heap) (locs1 : List Loc), RW D ws2 H0 H1 locs1 → W p l e Rm s m args below meth c H1 locs1 cells slots Q (F0 m (pc + 3) ls st')) : W p l e Rm s m args below meth c H locs cells slots Q (F0 m pc ls st) :=
  w_callV M X hfst hM hsz n q1 q2 q3 q4 q5 hd hR he hc hqc hn hst0 hcat hdg hf hst kk
theorem w_callS0 {y : MethodName} {cc' : ByteArray} {nL' idx : Nat} {ret' : Option FieldType} {rm' : Room} {v : Option Value} {As st st' : List Value} (M : MC D ca p s m args meth c cc nL own) (X : RW D ws H0 H locs) (hfst : ws2.map Prod.fst = ws.map Prod.fst)
    (hM : Met l y (ws_ y cc' nL' ret') rm' (PCw D ca ws H.size As) (QMw D ws ws2 H.size v) 0 0 (AL ws H.size)) (hsz : ls.size = nL) (n : Nat) (q1 : Cond.methodLink own idx y ∈ lw_all) (q2 : Cond.static y ∈ lw_all) (q4 : Cond.initialized y.cls ∈ lw_all) (q5 : Cond.code y cc' nL' ret' ∈ lw_all)
    (hd : y.cls ≠ "java/lang/invoke/MethodHandle" ∧ y.cls ≠ "java/lang/invoke/VarHandle" ∧ (parseMethodDescriptor y.desc).map (fun d => d.parameters.length) = some n) (hR : (rm'.frames + 1 ≤ Rm.frames ∧ 8 + (nL' + 11) + rm'.locals ≤ Rm.locals) ∧ (rm'.cells = 0 ∧ rm'.slots = 0))
    (hn : As.length = n) (hst0 : st = As.reverse ++ rest) (hcat : (rest.map fun v => v.category).sum ≤ 8) (hdg : decode cc pc = .ok (.invokestatic idx, 3)) (hf : cells ≤ Rm.cells ∧ slots ≤ Rm.slots) (hst : v.toList ++ rest = st')
    (kk : ∀ (H1 : Heap) (locs1 : List Loc), RW D ws2 H0 H1 locs1 → W p l e Rm s m args below meth c H1 locs1 cells slots Q (F0 m (pc + 3) ls st')) : W p l e Rm s m args below meth c H locs cells slots Q (F0 m pc ls st) :=
  w_callS M X hfst hM hsz n q1 q2 q4 q5 hd hR hn hst0 hcat hdg hf hst kk
theorem w_mmax {x y : Int32} (K : MC D ca p s m args meth c cc nL own) (hsz : ls.size = nL) (q1 : Cond.methodLink own idx Lib.Math.max.name ∈ lw_all) (q2 : Cond.static Lib.Math.max.name ∈ lw_all) (q3 : Cond.initialized "java/lang/Math" ∈ lw_all) (q4 : Cond.code Lib.Math.max.name Lib.Math.max.code 2 (some .int) ∈ lw_all) (hfr : 1 ≤ Rm.frames) (hlo : (rest.map fun v => v.category).sum + 13 ≤ Rm.locals) (h1 : cells ≤ Rm.cells) (h2 : slots ≤ Rm.slots) (hdg : decode cc pc = .ok (.invokestatic idx, 3))
    (kk : W p l e Rm s m args below meth c H locs cells slots Q (F0 m (pc + 3) ls (.int (jmax x y) :: rest))) : W p l e Rm s m args below meth c H locs cells slots Q (F0 m pc ls (.int y :: .int x :: rest)) :=
  va_mmax K.1 K.2.1 (K.2.2.1.trans hsz.symm) K.2.2.2.1 (K.2.2.2.2.1 _ q1) (K.2.2.2.2.1 _ q2) (K.2.2.2.2.1 _ q3) (K.2.2.2.2.1 _ q4) hfr hlo h1 h2 hdg kk
theorem w_mmin {x y : Int32} (K : MC D ca p s m args meth c cc nL own) (hsz : ls.size = nL) (q1 : Cond.methodLink own idx Lib.Math.min.name ∈ lw_all) (q2 : Cond.static Lib.Math.min.name ∈ lw_all) (q3 : Cond.initialized "java/lang/Math" ∈ lw_all) (q4 : Cond.code Lib.Math.min.name Lib.Math.min.code 2 (some .int) ∈ lw_all) (hfr : 1 ≤ Rm.frames) (hlo : (rest.map fun v => v.category).sum + 13 ≤ Rm.locals) (h1 : cells ≤ Rm.cells) (h2 : slots ≤ Rm.slots) (hdg : decode cc pc = .ok (.invokestatic idx, 3))
    (kk : W p l e Rm s m args below meth c H locs cells slots Q (F0 m (pc + 3) ls (.int (jmin x y) :: rest))) : W p l e Rm s m args below meth c H locs cells slots Q (F0 m pc ls (.int y :: .int x :: rest)) :=
  va_mmin K.1 K.2.1 (K.2.2.1.trans hsz.symm) K.2.2.2.1 (K.2.2.2.2.1 _ q1) (K.2.2.2.2.1 _ q2) (K.2.2.2.2.1 _ q3) (K.2.2.2.2.1 _ q4) hfr hlo h1 h2 hdg kk
theorem w_mabs {x : Int32} (K : MC D ca p s m args meth c cc nL own) (hsz : ls.size = nL) (q1 : Cond.methodLink own idx Lib.Math.abs.name ∈ lw_all) (q2 : Cond.static Lib.Math.abs.name ∈ lw_all) (q3 : Cond.initialized "java/lang/Math" ∈ lw_all) (q4 : Cond.code Lib.Math.abs.name Lib.Math.abs.code 1 (some .int) ∈ lw_all) (hfr : 1 ≤ Rm.frames) (hlo : (rest.map fun v => v.category).sum + 13 ≤ Rm.locals) (h1 : cells ≤ Rm.cells) (h2 : slots ≤ Rm.slots) (hdg : decode cc pc = .ok (.invokestatic idx, 3))
    (kk : W p l e Rm s m args below meth c H locs cells slots Q (F0 m (pc + 3) ls (.int (jabs x) :: rest))) : W p l e Rm s m args below meth c H locs cells slots Q (F0 m pc ls (.int x :: rest)) :=
  va_mabs K.1 K.2.1 (K.2.2.1.trans hsz.symm) K.2.2.2.1 (K.2.2.2.2.1 _ q1) (K.2.2.2.2.1 _ q2) (K.2.2.2.2.1 _ q3) (K.2.2.2.2.1 _ q4) hfr (by omega) h1 h2 hdg kk
theorem w_mmaxl {x y : Int64} (K : MC D ca p s m args meth c cc nL own) (hsz : ls.size = nL) (q1 : Cond.methodLink own idx Lib.MathLoose.max_long.x ∈ lw_all) (q2 : Cond.static Lib.MathLoose.max_long.x ∈ lw_all) (q3 : Cond.initialized "java/lang/Math" ∈ lw_all) (q4 : Cond.code Lib.MathLoose.max_long.x Lib.MathLoose.max_long.code 4 (some .long) ∈ lw_all) (hfr : 1 ≤ Rm.frames) (hlo : (rest.map fun v => v.category).sum + 17 ≤ Rm.locals) (h1 : cells ≤ Rm.cells) (h2 : slots ≤ Rm.slots) (hdg : decode cc pc = .ok (.invokestatic idx, 3))
    (kk : W p l e Rm s m args below meth c H locs cells slots Q (F0 m (pc + 3) ls (.long (lmax x y) :: rest))) : W p l e Rm s m args below meth c H locs cells slots Q (F0 m pc ls (.long y :: .long x :: rest)) :=
  va_mmax_long K.1 K.2.1 (K.2.2.1.trans hsz.symm) K.2.2.2.1 (K.2.2.2.2.1 _ q1) (K.2.2.2.2.1 _ q2) (K.2.2.2.2.1 _ q3) (K.2.2.2.2.1 _ q4) hfr (by omega) h1 h2 hdg kk
theorem w_mminl {x y : Int64} (K : MC D ca p s m args meth c cc nL own) (hsz : ls.size = nL) (q1 : Cond.methodLink own idx Lib.MathLoose.min_long.x ∈ lw_all) (q2 : Cond.static Lib.MathLoose.min_long.x ∈ lw_all) (q3 : Cond.initialized "java/lang/Math" ∈ lw_all) (q4 : Cond.code Lib.MathLoose.min_long.x Lib.MathLoose.min_long.code 4 (some .long) ∈ lw_all) (hfr : 1 ≤ Rm.frames) (hlo : (rest.map fun v => v.category).sum + 17 ≤ Rm.locals) (h1 : cells ≤ Rm.cells) (h2 : slots ≤ Rm.slots) (hdg : decode cc pc = .ok (.invokestatic idx, 3))
    (kk : W p l e Rm s m args below meth c H locs cells slots Q (F0 m (pc + 3) ls (.long (lmin x y) :: rest))) : W p l e Rm s m args below meth c H locs cells slots Q (F0 m pc ls (.long y :: .long x :: rest)) :=
  va_mmin_long K.1 K.2.1 (K.2.2.1.trans hsz.symm) K.2.2.2.1 (K.2.2.2.2.1 _ q1) (K.2.2.2.2.1 _ q2) (K.2.2.2.2.1 _ q3) (K.2.2.2.2.1 _ q4) hfr (by omega) h1 h2 hdg kk
end MORE
