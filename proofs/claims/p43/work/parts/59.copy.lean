/-! COPIES -/
theorem cpy_0 {α : Type} (f g : Nat → α) (b d : Nat) : va_cpy f g b d 0 = g := by
  funext k
  unfold va_cpy
  rw [if_neg (by omega)]
theorem cpy_s {α : Type} (f g : Nat → α) (b d i : Nat) : va_up (va_cpy f g b d i) (d + i) (f (b + i)) = va_cpy f g b d (i + 1) := by
  funext k
  unfold va_up va_cpy
  by_cases h : k = d + i
  · rw [if_pos h, if_pos (by omega)]
    congr 1
    omega
  · rw [if_neg h]
    by_cases q : d ≤ k ∧ k < d + i
    · rw [if_pos q, if_pos (by omega)]
    · rw [if_neg q, if_neg (by omega)]
theorem cpy_at {α : Type} {f g : Nat → α} {b d n k : Nat} (h : d ≤ k ∧ k < d + n) : va_cpy f g b d n k = f (b + (k - d)) := by unfold va_cpy; rw [if_pos h]
theorem cpy_no {α : Type} {f g : Nat → α} {b d n k : Nat} (h : ¬ (d ≤ k ∧ k < d + n)) : va_cpy f g b d n k = g k := by unfold va_cpy; rw [if_neg h]
/-! the class's -/
def RSame (R R2 : RowS) (c : Nat) : Prop :=
  (∀ k, k < 3 → R.1 0 k = R2.1 0 k) ∧ (∀ p, p < 8 → R.1 1 p = R2.1 1 p) ∧
  (∀ j, j < 2 → (∀ k, k < 3 → R.1 (j + 2) k = R2.1 (j + 2) k) ∧ (∀ k, 3 ≤ k → k < 7 → R.2 (j + 2) k = R2.2 (j + 2) k)) ∧
  (∀ t, t < c → ∀ k, k < 10 → R.1 (t + 5) k = R2.1 (t + 5) k)
theorem rel_same {R R2 : RowS} {N : Nat → Int32} {S : Nat → Int64} (q : RSame R R2 (cnt N)) (r : Rel R2 N S) : Rel R N S := by
  obtain ⟨q1, q2, q3, q4⟩ := q
  obtain ⟨r1, r2, r3, r4, r5, r6⟩ := r
  refine ⟨by rw [q1 0 (by decide)]; exact r1, by rw [q1 1 (by decide)]; exact r2, by rw [q1 2 (by decide)]; exact r3, fun p hp => by rw [q2 p hp]; exact r4 p hp, fun j hj => ?_, fun t ht k hk => by rw [q4 t ht k (by omega)]; exact r6 t ht k hk⟩
  obtain ⟨a, b⟩ := q3 j hj
  rw [a 0 (by decide), a 1 (by decide), a 2 (by decide), b 3 (by decide) (by decide), b 4 (by decide) (by decide), b 5 (by decide) (by decide)]
  exact r5 j hj
theorem set_same {R R2 : RowS} {N : Nat → Int32} {S : Nat → Int64} (q : RSame R R2 (cnt N)) (r : Settled R2 N S) : Settled R N S := by
  obtain ⟨r1, r2, r3, r4⟩ := r
  refine ⟨rel_same q r1, fun t ht => ?_, fun j hj => ?_, fun t ht => ?_⟩
  · rw [q.2.2.2 t ht 7 (by decide), q.2.2.2 t ht 8 (by decide)]; exact r2 t ht
  · rw [(q.2.2.1 j hj).2 6 (by decide) (by decide)]; exact r3 j hj
  · rw [q.2.2.2 t ht 9 (by decide)]; exact r4 t ht
theorem good_same {R R2 : RowS} {N : Nat → Int32} {S : Nat → Int64} (q : RSame R R2 (cnt N)) (g : Good R2 N S) : Good R N S := ⟨g.1, g.2.1, g.2.2.1, g.2.2.2.1, set_same q g.2.2.2.2⟩
theorem tube_copy {T T2 : Nat → Int32} : ∀ k, k < 10 → f_X6_copyFrom T T2 k = T2 k := by
  intro k hk
  unfold f_X6_copyFrom f_X6_shape f_X6_stand
  simp only [lt]
  have : k = 0 ∨ k = 1 ∨ k = 2 ∨ k = 3 ∨ k = 4 ∨ k = 5 ∨ k = 6 ∨ k = 7 ∨ k = 8 ∨ k = 9 := by omega
  rcases this with rfl | rfl | rfl | rfl | rfl | rfl | rfl | rfl | rfl | rfl <;> rfl
theorem leg_copy1 {L L2 : (Nat → Int32) × (Nat → Int64)} : ∀ k, k < 3 → (f_X1_copyFrom L L2).1 k = L2.1 k := by
  intro k hk
  have : k = 0 ∨ k = 1 ∨ k = 2 := by omega
  rcases this with rfl | rfl | rfl <;> rfl
theorem leg_copy2 {L L2 : (Nat → Int32) × (Nat → Int64)} : ∀ k, 3 ≤ k → k < 7 → (f_X1_copyFrom L L2).2 k = L2.2 k := by
  intro k h3 hk
  have : k = 3 ∨ k = 4 ∨ k = 5 ∨ k = 6 := by omega
  rcases this with rfl | rfl | rfl | rfl <;> rfl
theorem stL_1 {R : RowS} {c : Nat} {L : (Nat → Int32) × (Nat → Int64)} : (stL R c L).1 c = L.1 := by unfold stL; simp only [va_up_self]
theorem stL_2 {R : RowS} {c : Nat} {L : (Nat → Int32) × (Nat → Int64)} : (stL R c L).2 c = L.2 := by unfold stL; simp only [va_up_self]
theorem stL_1n {R : RowS} {c d : Nat} {L : (Nat → Int32) × (Nat → Int64)} (h : d ≠ c) : (stL R c L).1 d = R.1 d := by unfold stL; simp only [va_up_ne _ _ h]
theorem stL_2n {R : RowS} {c d : Nat} {L : (Nat → Int32) × (Nat → Int64)} (h : d ≠ c) : (stL R c L).2 d = R.2 d := by unfold stL; simp only [va_up_ne _ _ h]
theorem stT_1 {R : RowS} {c : Nat} {T : Nat → Int32} : (stT R c T).1 c = T := by unfold stT; simp only [va_up_self]
theorem stT_1n {R : RowS} {c d : Nat} {T : Nat → Int32} (h : d ≠ c) : (stT R c T).1 d = R.1 d := by unfold stT; simp only [va_up_ne _ _ h]
theorem c_copy {R R2 : RowS} {c n : Nat} (hn : 12 < n) (hc : c ≤ 12) (h2 : R2.1 0 2 = nI c) : ∃ R', f_X3_copyFrom n R R2 = some R' ∧ RSame R' R2 c := by
  have a1 := wl_rel (f := fun t : Int32 × RowS => l_X3_copyFrom_26 R2 t.1 t.2) (fun i s => s.1 = nI i ∧ (∀ k, k < 3 → s.2.1 0 k = R2.1 0 k) ∧ ∀ p, p < i → s.2.1 1 p = R2.1 1 p) (fun p => (∀ k, k < 3 → p.1 0 k = R2.1 0 k) ∧ ∀ q, q < 8 → p.1 1 q = R2.1 1 q) 8 (fun i s hi hs => by
    obtain ⟨z, R1⟩ := s
    obtain ⟨g1, g2, g3⟩ := hs
    simp only at g1 g2 g3
    subst g1
    refine ⟨(nI (i + 1), si R1 1 i (R2.1 1 i)), ?_, rfl, fun k hk => ?_, fun p hp => ?_⟩
    · show l_X3_copyFrom_26 R2 (nI i) R1 = _
      unfold l_X3_copyFrom_26
      rw [show (8 : Int32) = nI 8 from rfl, if_neg (by rw [nI_leI (by omega) (by omega)]; omega), c_press hi, lt_eq, if_pos (by rw [nI_toInt (by omega)]; omega), nI_clamp (by omega)]
      simp only [lt, nI_1]
    · rw [si_ne (Or.inl (by decide))]; exact g2 k hk
    · by_cases q : p = i
      · subst q; exact si_at
      · rw [si_ne (Or.inr q)]; exact g3 p (by omega)) (fun s hs => by
    obtain ⟨z, R1⟩ := s
    obtain ⟨g1, g2, g3⟩ := hs
    simp only at g1 g2 g3
    subst g1
    exact ⟨R1, rfl, g2, g3⟩) 8 0 n (0, si (si (si R 0 0 (R2.1 0 0)) 0 1 (R2.1 0 1)) 0 2 (R2.1 0 2)) (by omega) (by omega) ⟨rfl, fun k hk => by
      have : k = 0 ∨ k = 1 ∨ k = 2 := by omega
      rcases this with rfl | rfl | rfl <;> rfl, fun p hp => by omega⟩
  obtain ⟨R1, b1, b2, b3⟩ := a1
  obtain ⟨R3, hR3⟩ : ∃ R3, R3 = stL (stL R1 (0 + 2) (f_X1_copyFrom (R1.1 (0 + 2), R1.2 (0 + 2)) (R2.1 (0 + 2), R2.2 (0 + 2)))) (1 + 2) (f_X1_copyFrom ((stL R1 (0 + 2) (f_X1_copyFrom (R1.1 (0 + 2), R1.2 (0 + 2)) (R2.1 (0 + 2), R2.2 (0 + 2)))).1 (1 + 2), (stL R1 (0 + 2) (f_X1_copyFrom (R1.1 (0 + 2), R1.2 (0 + 2)) (R2.1 (0 + 2), R2.2 (0 + 2)))).2 (1 + 2)) (R2.1 (1 + 2), R2.2 (1 + 2))) := ⟨_, rfl⟩
  have c1 : ∀ k, k < 3 → R3.1 0 k = R2.1 0 k := fun k hk => by rw [hR3, stL_1n (by decide), stL_1n (by decide)]; exact b2 k hk
  have c2 : ∀ q, q < 8 → R3.1 1 q = R2.1 1 q := fun k hk => by rw [hR3, stL_1n (by decide), stL_1n (by decide)]; exact b3 k hk
  have c3 : ∀ j, j < 2 → (∀ k, k < 3 → R3.1 (j + 2) k = R2.1 (j + 2) k) ∧ (∀ k, 3 ≤ k → k < 7 → R3.2 (j + 2) k = R2.2 (j + 2) k) := by
    intro j hj
    rcases (show j = 1 ∨ j = 0 by omega) with rfl | rfl
    · exact ⟨fun k hk => by rw [hR3, stL_1]; exact leg_copy1 k hk, fun k h3 hk => by rw [hR3, stL_2]; exact leg_copy2 k h3 hk⟩
    · exact ⟨fun k hk => by rw [hR3, stL_1n (by decide), stL_1]; exact leg_copy1 k hk, fun k h3 hk => by rw [hR3, stL_2n (by decide), stL_2]; exact leg_copy2 k h3 hk⟩
  have a2 := wl_rel (f := fun t : Int32 × RowS => l_X3_copyFrom_76 R2 t.1 t.2) (fun i s => s.1 = nI i ∧ RSame s.2 R2 i) (fun p => RSame p R2 c) c (fun i s hi hs => by
    obtain ⟨z, R4⟩ := s
    obtain ⟨g1, g2, g3, g4, g5⟩ := hs
    simp only at g1 g2 g3 g4 g5
    subst g1
    refine ⟨(nI (i + 1), stT R4 (i + 5) (f_X6_copyFrom (R4.1 (i + 5)) (R2.1 (i + 5)))), ?_, rfl, fun k hk => ?_, fun p hp => ?_, fun j hj => ?_, fun t ht k hk => ?_⟩
    · show l_X3_copyFrom_76 R2 (nI i) R4 = _
      unfold l_X3_copyFrom_76
      rw [g2 2 (by decide), h2, if_neg (by rw [nI_leI (by omega) (by omega)]; omega), c_tubeAt (show i < 12 by omega), c_tubeAt (show i < 12 by omega)]
      simp only [lt, nI_1]
    · show (stT R4 (i + 5) (f_X6_copyFrom (R4.1 (i + 5)) (R2.1 (i + 5)))).1 0 k = _
      rw [stT_1n (by omega)]; exact g2 k hk
    · show (stT R4 (i + 5) (f_X6_copyFrom (R4.1 (i + 5)) (R2.1 (i + 5)))).1 1 p = _
      rw [stT_1n (by omega)]; exact g3 p hp
    · refine ⟨fun k hk => ?_, (g4 j hj).2⟩
      show (stT R4 (i + 5) (f_X6_copyFrom (R4.1 (i + 5)) (R2.1 (i + 5)))).1 (j + 2) k = _
      rw [stT_1n (by omega)]; exact (g4 j hj).1 k hk
    · show (stT R4 (i + 5) (f_X6_copyFrom (R4.1 (i + 5)) (R2.1 (i + 5)))).1 (t + 5) k = _
      by_cases q : t = i
      · subst q; rw [stT_1]; exact tube_copy k hk
      · rw [stT_1n (by omega)]; exact g5 t (by omega) k hk) (fun s hs => by
    obtain ⟨z, R4⟩ := s
    obtain ⟨g1, g2⟩ := hs
    simp only at g1 g2
    subst g1
    refine ⟨R4, ?_, g2⟩
    show l_X3_copyFrom_76 R2 (nI c) R4 = _
    unfold l_X3_copyFrom_76
    rw [g2.1 2 (by decide), h2, if_pos (by rw [nI_leI (by omega) (by omega)]; omega)]) c 0 n (0, R3) (by omega) (by omega) ⟨rfl, c1, c2, c3, fun t ht => by omega⟩
  obtain ⟨R5, d1, d2⟩ := a2
  refine ⟨R5, ?_, d2⟩
  unfold f_X3_copyFrom
  simp only [lt]
  rw [b1, ob_some]
  unfold b_X3_copyFrom_52
  simp only [lt]
  rw [← hR3, d1]
  rfl

