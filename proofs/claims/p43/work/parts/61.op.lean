/-! OPERATIONS, what they share -/
theorem bd_up {N : Nat → Int32} {i i2 : Nat} {v : Int32} {a b : Int} (h1 : i2 = i → bd v a b) (h : bd (N i2) a b) : bd (va_up N i v i2) a b := by
  unfold va_up
  by_cases q : i2 = i
  · rw [if_pos q]; exact h1 q
  · rw [if_neg q]; exact h
theorem cnt_up {N : Nat → Int32} {i : Nat} {v : Int32} (h : i ≠ 2) : cnt (va_up N i v) = cnt N := by
  unfold cnt
  rw [va_up_ne _ _ (Ne.symm h)]
theorem wf_cell {N : Nat → Int32} (h : wfN N) {i : Nat} {v : Int32} (h0 : i ≠ 0 ∧ i ≠ 2) (c1 : 1 = i → bd v 0 99999) (c4 : ∀ p, p < 8 → 4 + p = i → bd v 0 99999) (cl : ∀ j, j < 2 → (12 + 3 * j + 0 = i → bd v 100 20000) ∧ (12 + 3 * j + 1 = i → bd v 100 99999) ∧ (12 + 3 * j + 2 = i → bd v (-9999) 9999)) (ct : ∀ t, t < 12 → 18 + 7 * t + 0 ≠ i ∧ 18 + 7 * t + 1 ≠ i ∧ (18 + 7 * t + 2 = i → bd v 1 20) ∧ (18 + 7 * t + 3 = i → bd v 50 1000) ∧ (18 + 7 * t + 4 = i → bd v 10 2000) ∧ (18 + 7 * t + 5 = i → bd v (-9999) 9999) ∧ (18 + 7 * t + 6 = i → bd v 0 2)) : wfN (va_up N i v) := by
  have hc := cnt_le h
  obtain ⟨h1, h2, h3, h4, h5, h6⟩ := h
  refine ⟨by rw [va_up_ne _ _ (Ne.symm h0.1)]; exact h1, bd_up c1 h2, by rw [va_up_ne _ _ (Ne.symm h0.2)]; exact h3, fun p hp => bd_up (c4 p hp) (h4 p hp), fun j hj => ⟨bd_up (cl j hj).1 (h5 j hj).1, bd_up (cl j hj).2.1 (h5 j hj).2.1, bd_up (cl j hj).2.2 (h5 j hj).2.2⟩, fun t ht => ?_⟩
  rw [cnt_up h0.2] at ht
  obtain ⟨g1, g2, g3, g4, g5, g6, g7, g8⟩ := h6 t ht
  obtain ⟨k1, k2, k3, k4, k5, k6, k7⟩ := ct t (by omega)
  have e0 : tg (va_up N i v) t 0 = tg N t 0 := va_up_ne _ _ k1
  have e1 : tg (va_up N i v) t 1 = tg N t 1 := va_up_ne _ _ k2
  refine ⟨by rw [e0]; exact g1, by rw [e1]; exact g2, by rw [e1, va_up_ne _ _ (Ne.symm h0.1)]; exact g3, bd_up k3 g4, bd_up k4 g5, bd_up k5 g6, bd_up k6 g7, bd_up k7 g8⟩
theorem wfS_cell {N : Nat → Int32} {S : Nat → Int64} (hS : wfS N S) {i : Nat} {v : Int32} (h : i ≠ 12 ∧ i ≠ 13 ∧ i ≠ 15 ∧ i ≠ 16) : wfS (va_up N i v) S := by
  intro j hj
  have e0 : lg (va_up N i v) j 0 = lg N j 0 := va_up_ne _ _ (by omega)
  have e1 : lg (va_up N i v) j 1 = lg N j 1 := va_up_ne _ _ (by omega)
  unfold lowL
  rw [e0, e1]
  exact hS j hj
theorem cell_up {R : RowS} {N : Nat → Int32} {c k c2 k2 i i2 : Nat} {v : Int32} (h1 : (c2 = c ∧ k2 = k) ↔ i2 = i) (h : R.1 c2 k2 = N i2) : (si R c k v).1 c2 k2 = va_up N i v i2 := by
  by_cases q : c2 = c ∧ k2 = k
  · rw [h1.mp q, va_up_self]
    obtain ⟨rfl, rfl⟩ := q
    exact si_at
  · rw [si_ne (by omega), va_up_ne _ _ (fun z => q (h1.mpr z))]
    exact h
theorem rel_cell {R : RowS} {N : Nat → Int32} {S : Nat → Int64} (h : wfN N) (r : Rel R N S) {c k i : Nat} {v : Int32} (h2 : i ≠ 2) (f0 : ∀ k2, k2 < 3 → ((0 = c ∧ k2 = k) ↔ k2 = i)) (f1 : ∀ p, p < 8 → ((1 = c ∧ p = k) ↔ 4 + p = i)) (f2 : ∀ j, j < 2 → ∀ k2, k2 < 3 → ((j + 2 = c ∧ k2 = k) ↔ 12 + 3 * j + k2 = i)) (f3 : ∀ t, t < 12 → ∀ k2, k2 < 7 → ((t + 5 = c ∧ k2 = k) ↔ 18 + 7 * t + k2 = i)) : Rel (si R c k v) (va_up N i v) S := by
  have hc := cnt_le h
  obtain ⟨r1, r2, r3, r4, r5, r6⟩ := r
  refine ⟨cell_up (f0 0 (by decide)) r1, cell_up (f0 1 (by decide)) r2, cell_up (f0 2 (by decide)) r3, fun p hp => cell_up (f1 p hp) (r4 p hp), fun j hj => ⟨cell_up (f2 j hj 0 (by decide)) (r5 j hj).1, cell_up (f2 j hj 1 (by decide)) (r5 j hj).2.1, cell_up (f2 j hj 2 (by decide)) (r5 j hj).2.2.1, (r5 j hj).2.2.2⟩, fun t ht m hm => ?_⟩
  rw [cnt_up h2] at ht
  exact cell_up (f3 t (by omega) m hm) (r6 t ht m hm)
theorem c_presses {R : RowS} {p : Nat} (hp : p < 8) (v : Int32) : f_X3_press R (nI p) v = si R 1 p v := by
  unfold f_X3_press
  rw [if_neg (nI_pos (by omega)), show (8 : Int32) = nI 8 from rfl, if_neg (by rw [nI_leI (by omega) (by omega)]; omega), nI_clamp (by omega)]
  rfl
