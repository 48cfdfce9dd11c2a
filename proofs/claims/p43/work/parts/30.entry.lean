/-! ENTRY: what holds at the start -/
def nflat : List Cond := flatC narrow_1
def zTm (i : Nat) : Term := .string (zO i) (zK i)
def zwi (i : Nat) : List Cond := [.exactly (zTm i) "java/lang/String", .eq (.field (zTm i) "java/lang/String" "coder" "B") (.int 0), .arrayOf (.field (zTm i) "java/lang/String" "value" "[B") .byte, .eq (.length (.field (zTm i) "java/lang/String" "value" "[B")) (.int (Int32.ofNat (zlen i)))] ++ (List.range (zlen i)).map (fun j => .eq (.elem (.field (zTm i) "java/lang/String" "value" "[B") (.int (Int32.ofNat j))) (.int (zch i j)))
def zBase : List Nat := [9, 19, 26, 33, 41, 52, 69, 83, 99, 123, 142, 159, 178, 198, 223, 253, 284, 328, 362, 395, 441]
theorem zwi_eq : ∀ i, i < 21 → zwi i = (nflat.drop (zBase.getD i 0)).take (zwi i).length := by decide +kernel
theorem zw_in {i : Nat} (hi : i < 21) {w : Cond} (h : w ∈ zwi i) : w ∈ nflat := by
  rw [zwi_eq i hi] at h
  exact List.mem_of_mem_drop (List.mem_of_mem_take h)
theorem zlen_s : ∀ i, i < 21 → zlen i < 2 ^ 31 := by decide +kernel
def zIdx : List Nat := [317, 373, 374, 376, 377, 378, 379, 381, 445, 510, 547, 564, 586, 587, 697, 718, 719, 736, 745, 747, 769]
theorem zsr : ∀ i, i < 21 → lw_tbl[zIdx.getD i 0]? = some (Cond.stringRef (zO i) (zK i) (zT i)) := by decide +kernel
theorem zN_in : ∀ q ∈ zN, Cond.methodLinkNest q.1 q.2.1 q.2.2 "SlantGauges" ∈ lw_tbl := by
  intro q hq
  simp only [zN, List.mem_cons, List.not_mem_nil, or_false] at hq
  rcases hq with rfl | rfl | rfl
  · exact List.mem_of_getElem? (i := 51) (by decide +kernel)
  · exact List.mem_of_getElem? (i := 94) (by decide +kernel)
  · exact List.mem_of_getElem? (i := 195) (by decide +kernel)
section ENTRY
variable {args : Array Value} {s : State} {A : Nat → Prop}
theorem ent_str (hA : ∀ a : Nat, a < s.heap.size → ¬ A a) (hn : ∀ w ∈ nflat, w.before args s = true) (i : Nat) : ∃ q : Nat × Nat, i < 21 → (zTm i).eval args s none [] s = some (.ref q.1) ∧ va_O "java/lang/String" q.1 A s s.heap ∧ va_OF "java/lang/String" "coder" "B" (.int 0) q.1 A s s.heap ∧ va_OF "java/lang/String" "value" "[B" (.ref q.2) q.1 A s s.heap ∧ va_T .byte q.2 (zlen i) (fun j => .int (zch i j)) A s s.heap := by
  by_cases hi : i < 21
  · have w1 := hn _ (zw_in hi (w := .exactly (zTm i) "java/lang/String") (by simp [zwi]))
    have w2 := hn _ (zw_in hi (w := .eq (.field (zTm i) "java/lang/String" "coder" "B") (.int 0)) (by simp [zwi]))
    have w3 := hn _ (zw_in hi (w := .arrayOf (.field (zTm i) "java/lang/String" "value" "[B") .byte) (by simp [zwi]))
    have w4 := hn _ (zw_in hi (w := .eq (.length (.field (zTm i) "java/lang/String" "value" "[B")) (.int (Int32.ofNat (zlen i)))) (by simp [zwi]))
    have w5 : ∀ j, j < zlen i → (Cond.eq (.elem (.field (zTm i) "java/lang/String" "value" "[B") (.int (Int32.ofNat j))) (.int (zch i j))).before args s = true := fun j hj => hn _ (zw_in hi (List.mem_append_right _ (List.mem_map.mpr ⟨j, List.mem_range.mpr hj, rfl⟩)))
    obtain ⟨a, c, cA, kA, q1, -⟩ := Cond.exactly_spec (args := args) (first := s) (o := none) (s := s) (idx := []) (t := zTm i) (cls := "java/lang/String") w1
    obtain ⟨t, ht, hT⟩ := va_Tof (f := fun j => .int (zch i j)) (A := A) (zlen_s i hi) w3 (va_eqt w4) (fun j hj => va_eqt (w5 j hj)) hA
    exact ⟨(a, t), fun _ => ⟨q1, va_Oof w1 q1 hA, vk_OFof q1 (va_eqt w2) hA, vk_OFof q1 ht hA, hT⟩⟩
  · exact ⟨(0, 0), fun h => (hi h).elim⟩
theorem ent_zf (hA : ∀ a : Nat, a < s.heap.size → ¬ A a) (ht : ∀ w ∈ lw_tbl, w.before args s = true) (hn : ∀ w ∈ nflat, w.before args s = true) {b L : Nat} {xs : Nat → Int32} (hX : va_X b L xs s s.heap) (hbl : b < s.heap.size) : ∃ z : ZG, z.2.2.1 = b ∧ z.2.2.2 = (L, xs) ∧ ZF z A s s.heap := by
  obtain ⟨zz, hz⟩ := Classical.axiomOfChoice (ent_str hA hn)
  obtain ⟨scr, x1, x2, x3, x4, x5⟩ := hX
  refine ⟨(fun i => (zz i).1, fun i => (zz i).2, b, L, xs), rfl, rfl, fun i hi => ?_, fun i hi => ?_, ?_, ?_, ⟨scr, x1, x2, x3, Nat.le_of_eq x4.symm, by rw [x4]; try rfl, fun j hj => x5 j hj, hA b hbl⟩, fun q hq => ?_, ?_, ?_⟩
  · obtain ⟨-, g1, g2, g3, g4⟩ := hz i hi
    exact ⟨g1, g2, g3, g4⟩
  · exact vk_R.of (ht _ (List.mem_of_getElem? (zsr i hi))) (hz i hi).1
  · exact va_Zof (ht _ (List.mem_of_getElem? (i := 241) (by decide +kernel))) (ht _ (List.mem_of_getElem? (i := 24) (by decide +kernel))) (va_eqt (hn _ (List.mem_of_getElem? (i := 2) (by decide +kernel)))) hA
  · exact va_Zqof (ht _ (List.mem_of_getElem? (i := 346) (by decide +kernel))) (ht _ (List.mem_of_getElem? (i := 27) (by decide +kernel))) (hn _ (List.mem_of_getElem? (i := 3) (by decide +kernel))) hA
  · exact va_Nw.of rfl (ht _ (zN_in q hq))
  · exact va_AO.of (ht _ (List.mem_of_getElem? (i := 181) (by decide +kernel)))
  · exact va_AO.of (ht _ (List.mem_of_getElem? (i := 92) (by decide +kernel)))
theorem ent_all (ht : ∀ w ∈ lw_tbl, w.before args s = true) : ∀ w ∈ lw_all, w.before args s = true := by
  intro w hw
  rcases lw_all_tbl hw with h | h
  · exact ht w h
  · cases h

theorem ent_cls (ht : ∀ w ∈ lw_tbl, w.before args s = true) (ci : Nat) : ∃ x : ClassId × (Nat → Nat), ∀ q, vwCl[ci]? = some q → u_Kn s q.1 q.2.1 q.2.2 x.1 x.2 := by
  have hall := ent_all ht
  rcases ci with _ | _ | _ | _ | _ | _ | _ | _ | _ | _ | _ | ci
  · obtain ⟨cC, iS, h⟩ := u_known (n := 4) hall iJ4 (ht _ (List.mem_of_getElem? (i := 232) (by decide +kernel)))
    exact ⟨(cC, iS), fun q hq => by cases hq; exact h⟩
  · obtain ⟨cC, iS, h⟩ := u_known (n := 4) hall iJ4 (ht _ (List.mem_of_getElem? (i := 232) (by decide +kernel)))
    exact ⟨(cC, iS), fun q hq => by cases hq; exact h⟩
  · obtain ⟨cC, iS, h⟩ := u_known (n := 3) hall iX0 (ht _ (List.mem_of_getElem? (i := 175) (by decide +kernel)))
    exact ⟨(cC, iS), fun q hq => by cases hq; exact h⟩
  · obtain ⟨cC, iS, h⟩ := u_known (n := 7) hall iX1 (ht _ (List.mem_of_getElem? (i := 50) (by decide +kernel)))
    exact ⟨(cC, iS), fun q hq => by cases hq; exact h⟩
  · obtain ⟨cC, iS, h⟩ := u_known (n := 7) hall iX1 (ht _ (List.mem_of_getElem? (i := 50) (by decide +kernel)))
    exact ⟨(cC, iS), fun q hq => by cases hq; exact h⟩
  · obtain ⟨cC, iS, h⟩ := u_known (n := 8) hall iX3 (ht _ (List.mem_of_getElem? (i := 44) (by decide +kernel)))
    exact ⟨(cC, iS), fun q hq => by cases hq; exact h⟩
  · obtain ⟨cC, iS, h⟩ := u_known (n := 2) hall iX4 (ht _ (List.mem_of_getElem? (i := 494) (by decide +kernel)))
    exact ⟨(cC, iS), fun q hq => by cases hq; exact h⟩
  · obtain ⟨cC, iS, h⟩ := u_known (n := 9) hall iX5 (ht _ (List.mem_of_getElem? (i := 194) (by decide +kernel)))
    exact ⟨(cC, iS), fun q hq => by cases hq; exact h⟩
  · obtain ⟨cC, iS, h⟩ := u_known (n := 10) hall iX6 (ht _ (List.mem_of_getElem? (i := 93) (by decide +kernel)))
    exact ⟨(cC, iS), fun q hq => by cases hq; exact h⟩
  · obtain ⟨cC, iS, h⟩ := u_known (n := 7) hall iX7 (ht _ (List.mem_of_getElem? (i := 36) (by decide +kernel)))
    exact ⟨(cC, iS), fun q hq => by cases hq; exact h⟩
  · obtain ⟨cC, iS, h⟩ := u_known (n := 2) hall iXL (ht _ (List.mem_of_getElem? (i := 297) (by decide +kernel)))
    exact ⟨(cC, iS), fun q hq => by cases hq; exact h⟩
  · exact ⟨(0, fun _ => 0), fun q hq => by cases hq⟩
theorem ent_arr {ty : FieldType} (hno : ∀ C, ty ≠ .object C) (h : (Cond.arrayClass ty).before args s = true) : ∃ cA : ClassId, ArrOfT s cA ty ∧ va_RA s cA ty := by
  obtain ⟨cA, kA, comp, h1, h2, h3⟩ := Cond.arrayClass_spec h
  refine ⟨cA, fun n z => ⟨fun k h => (by cases h), kA, h2, comp, h3⟩, ?_⟩
  cases ty with
  | object C => exact (hno C rfl).elim
  | _ => exact h1
theorem ent_arq {C : String} (h : (Cond.arrayOver (.object C)).before args s = true) : ∃ cA : ClassId, ArrOfT s cA (.object C) ∧ va_RA s cA (.object C) := by
  obtain ⟨comp, cA, kA, h1, h2, h3, h4, h5⟩ := Cond.arrayOver_spec h
  exact ⟨cA, fun n z => ⟨fun k h => (by cases h), kA, h3, comp, h4⟩, kA, comp, h3, h4, h1, h5⟩
theorem ent_K (ht : ∀ w ∈ lw_tbl, w.before args s = true) : ∃ (D : va_G) (ca : Nat → ClassId), va_K D vwCl (tyl ca) s := by
  obtain ⟨F, hc⟩ := Classical.axiomOfChoice (ent_cls ht)
  obtain ⟨c0, a0, b0⟩ := ent_arr (s := s) (ty := .byte) (fun C h => by cases h) (ht _ (List.mem_of_getElem? (i := 230) (by decide +kernel)))
  obtain ⟨c1, a1, b1⟩ := ent_arr (s := s) (ty := .int) (fun C h => by cases h) (ht _ (List.mem_of_getElem? (i := 90) (by decide +kernel)))
  obtain ⟨c2, a2, b2⟩ := ent_arr (s := s) (ty := .int) (fun C h => by cases h) (ht _ (List.mem_of_getElem? (i := 90) (by decide +kernel)))
  obtain ⟨c3, a3, b3⟩ := ent_arq (s := s) (C := "SlantGauges$Row") (ht _ (List.mem_of_getElem? (i := 181) (by decide +kernel)))
  obtain ⟨c4, a4, b4⟩ := ent_arq (s := s) (C := "SlantGauges$Tube") (ht _ (List.mem_of_getElem? (i := 92) (by decide +kernel)))
  refine ⟨(fun ci => (F ci).1, fun ci => (F ci).2), fun k => [c0, c1, c2, c3, c4].getD k 0, fun ci q hq => hc ci q hq, fun k q hk => ?_⟩
  rcases k with _ | _ | _ | _ | _ | k
  · cases hk; exact ⟨a0, b0⟩
  · cases hk; exact ⟨a1, b1⟩
  · cases hk; exact ⟨a2, b2⟩
  · cases hk; exact ⟨a3, b3⟩
  · cases hk; exact ⟨a4, b4⟩
  · cases hk
end ENTRY
