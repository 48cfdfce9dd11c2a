/-! BUILDER: the StringBuilder's cells -/
theorem iJ4 : ∀ w ∈ u_ws RJ4 TJ4 4, w ∈ lw_all := by decide +kernel
theorem zfit : ∀ i, i < 21 → ∀ j, j < 25 → fits .byte (.int (zch i j)) = true := by decide +kernel
theorem zlen25 : ∀ i, i < 21 → zlen i < 25 := by decide +kernel
section SBR
variable {p : Program} {l : Launch} {e : Env} {Rm : Room} {s : State} {m : MethodId} {args : Array Value} {below : List Frame} {meth : Method} {c : Code} {H0 H : Heap} {locs : List Loc} {cells slots : Nat} {Q : State → Prop}
variable {cc : ByteArray} {nL : Nat} {own : String} {z : ZG} {D : va_G} {ca : Nat → ClassId} {ar : Nat → Nat → Nat} {ag : Nat → Nat} {xs ws0 : va_W} {pc : Nat} {ls : Array Slot} {rest : List Value} {P : RowsS} {G G2 : GlbS} {i idx : Nat}
theorem w_nret {ws ws2 : va_W} {v : Int32} {ty : FieldType} {sz : Nat} (M : MC D ca p s m args meth c cc nL own) (hr : meth.sig.returnType = some ty) (X : RW D ws2 s.heap H locs) (hfst : ws2.map Prod.fst = ws.map Prod.fst) (hsz : s.heap.size = sz) (hn : narrow ty (.int v) = .int v) (hdg : decode cc pc = .ok (.ireturn, 1)) : W p l e Rm s m args below meth c H locs cells slots (MQ below (QMw D ws ws2 sz (some (.int v))) args s cells slots (AL ws sz)) (F0 m pc ls [.int v]) := by
  obtain ⟨hx, hb, hml, hown, hts, hK, hlk⟩ := M
  exact W.zret hx hb hr hn (fun t ht _ => w_q X hfst hsz ht) (w_l X hfst hsz) hdg hlk
theorem nar_c {v : Int32} (h : 0 ≤ v.toInt ∧ v.toInt < 65536) : narrow .char (.int v) = .int v := by
  obtain ⟨j, hj, rfl⟩ : ∃ j : Nat, j < 65536 ∧ v = nI j := by
    refine ⟨v.toInt.toNat, by omega, ?_⟩
    apply Int32.toInt_inj.mp
    rw [nI_toInt (by omega)]; omega
  exact (pk_charN hj).1
theorem g_gram4 (K : MC D ca p s m args meth c cc nL own) {gq gj r : Nat} (X : RW D (wC ar ag ca P G ++ xs) H0 H locs) (hg : xs[gj]? = some (gq, .inr (6, [.ref (ag 3), .ref (ar r 0)]))) (k : Nat) {v : Value} (hk : k < 2) (hv : ([.ref (ag 3), .ref (ar r 0)] : List Value)[k]? = some v) (hl : Cond.fieldLink own idx (TX4 k).1 (TX4 k).2.1 (TX4 k).2.2.1 ∈ lw_all) (hdg : decode cc pc = .ok (.getfield idx, 3))
    (kk : W p l e Rm s m args below meth c H locs cells slots Q (F0 m (pc + 3) ls (v :: rest))) : W p l e Rm s m args below meth c H locs cells slots Q (F0 m pc ls (.ref gq :: rest)) :=
  w_get K X iX4 rfl (243 + gj) (pl_xs.trans hg) k hk hl hv hdg kk
end SBR
