/-! OPERATIONS, what they share -/
def Rest (P : RowsS) (G : GlbS) (M : RowS) : Prop := IHist P G M ∧ ISnap P G M ∧ IBuf G M ∧ G 3 8 = M.1 0 20 ∧ IFmt G M
theorem rest_row {P : RowsS} {G : GlbS} {M : RowS} {R : RowS} {N : Nat → Int32} {S : Nat → Int64} (T : Rest P G M) : Rest (va_up P 0 R) G (mk M N S) := by
  obtain ⟨t1, t2, t3, t4, t5⟩ := T
  refine ⟨hist_fr t1 (fun r hr => va_up_ne _ _ (by omega)) rfl (mk_1n (by decide)) (mk_2n (by decide)) (by rw [mk_1n (by decide)]), snap_fr t2 (va_up_ne _ _ (by decide)) rfl (mk_1n (by decide)) (mk_2n (by decide)) (by rw [mk_1n (by decide)]), buf_fr t3 rfl rfl (mk_1n (by decide)) (by rw [mk_1n (by decide)]), by rw [mk_1n (by decide)]; exact t4, fmt_fr t5 rfl rfl (mk_1n (by decide)) (by rw [mk_1n (by decide)])⟩
theorem rest_keep {P P' : RowsS} {G G' : GlbS} {M M' : RowS} (I : Inv P G M) (k3 : ∀ r, r < 3 → P' r = P r) (k4 : ∀ c, c ≠ 1 → G' c = G c) (k5 : MFr M' M) (k6 : IHist P' G' M') : Rest P' G' M' := by
  obtain ⟨_, _, t2, t3, t4, t5⟩ := I
  refine ⟨k6, snap_fr t2 (k3 2 (by decide)) (by rw [k4 0 (by decide)]) (k5.1 2 (by decide) (by decide)) (k5.2.1 6 (by decide)) (k5.2.2 10 (by decide)), buf_fr t3 (by rw [k4 3 (by decide)]) (k4 4 (by decide)) (k5.1 11 (by decide) (by decide)) (k5.2.2 12 (by decide)), by rw [k4 3 (by decide), k5.2.2 20 (by decide)]; exact t4, fmt_fr t5 (by rw [k4 5 (by decide)]) (k4 6 (by decide)) (k5.1 21 (by decide) (by decide)) (k5.2.2 22 (by decide))⟩
theorem inv_rest {P : RowsS} {G : GlbS} {M : RowS} (I : Inv P G M) : Rest P G M := I.2
theorem zb_set {N N' : Nat → Int32} {S S' : Nat → Int64} (z : ZB N S) (e : StEq N N') (h4 : ∀ k, 4 ≤ k → S' k = S k) : ZB N' S' := ⟨fun k hk => by rw [e k (fun t _ => by omega)]; exact z.1 k hk, fun k hk => by rw [h4 k (by omega)]; exact z.2 k hk⟩
theorem settle_good {R1 : RowS} {N : Nat → Int32} {S : Nat → Int64} (h : wfN N) (hS : wfS N S) (hz : ZB N S) (r : Rel R1 N S) : ∃ R2, f_X3_settle 200 R1 = some ((settleS N S).1, R2) ∧ Good R2 (settleS N S).2.1 (settleS N S).2.2 := by
  obtain ⟨R2, s1, s2⟩ := c_settle (n := 200) (by omega) h hS r
  obtain ⟨c, f1, f2, f3, f4, f5, f6, f7, f8⟩ := settle_facts h hS
  exact ⟨R2, s1, f5, f6, zb_set hz f4 f7, f8, s2⟩
theorem finish {P : RowsS} {G : GlbS} {M R1 : RowS} {N : Nat → Int32} {S : Nat → Int64} (T : Rest P G M) (h : wfN N) (hS : wfS N S) (hz : ZB N S) (r : Rel R1 N S) : ∃ R2, f_X3_settle 200 R1 = some ((settleS N S).1, R2) ∧ f_X8_settles 200 (mk M N S) = some ((settleS N S).1, mk M (settleS N S).2.1 (settleS N S).2.2) ∧ Inv (va_up P 0 R2) G (mk M (settleS N S).2.1 (settleS N S).2.2) ∧ Good R2 (settleS N S).2.1 (settleS N S).2.2 := by
  obtain ⟨R2, s1, s2⟩ := settle_good h hS hz r
  refine ⟨R2, s1, m_settle h hS (by omega), ⟨?_, rest_row T⟩, s2⟩
  rw [va_up_self, mk_1, mk_2]
  exact s2
theorem bd_up {N : Nat → Int32} {i i2 : Nat} {v : Int32} {a b : Int} (h1 : i2 = i → bd v a b) (h : bd (N i2) a b) : bd (va_up N i v i2) a b := by
  unfold va_up
  by_cases q : i2 = i
  · rw [if_pos q]; exact h1 q
  · rw [if_neg q]; exact h
theorem cnt_up {N : Nat → Int32} {i : Nat} {v : Int32} (h : i ≠ 2) : cnt (va_up N i v) = cnt N := by
  unfold cnt
  rw [va_up_ne _ _ (Ne.symm h)]
theorem wf_cell {N : Nat → Int32} (h : wfN N) {i : Nat} {v : Int32} (h0 : i ≠ 0 ∧ i ≠ 2) (c1 : 1 = i → bd v 0 99999) (c4 : ∀ p, p < 8 → 4 + p = i → bd v 0 99999) (cl : ∀ j, j < 2 → (12 + 3 * j + 0 = i → bd v 100 20000) ∧ (12 + 3 * j + 1 = i → bd v 100 99999) ∧ (12 + 3 * j + 2 = i → bd v (-9999) 9999)) (ct : ∀ t, t < 12 → 18 + 7 * t + 0 ≠ i ∧ 18 + 7 * t + 1 ≠ i ∧ (18 + 7 * t + 2 = i → bd v 1 20) ∧ (18 + 7 * t + 3 = i → bd v 50 1000) ∧ (18 + 7 * t + 4 = i → bd v 10 2000) ∧ (18 + 7 * t + 5 = i → bd v (-9999) 9999) ∧ (18 + 7 * t + 6 = i → bd v 0 2)) : wfN (va_up N i v) := by
  have hc := cnt_le h
  obtain ⟨h1, h2, h3, h4, h5, h6⟩ := h
  refine ⟨by rw [va_up_ne _ _ (Ne.symm h0.1)]; exact h1, bd_up c1 h2, by rw [va_up_ne _ _ (Ne.symm h0.2)]; exact h3, fun p hp => bd_up (c4 p hp) (h4 p hp), fun j hj => ⟨bd_up (cl j hj).1 (h5 j hj).1, bd_up (cl j hj).2.1 (h5 j hj).2.1, bd_up (cl j hj).2.2 (h5 j hj).2.2⟩, fun t ht => ?_⟩
  rw [cnt_up h0.2] at ht
  obtain ⟨g1, g2, g3, g4, g5, g6, g7, g8⟩ := h6 t ht
  obtain ⟨k1, k2, k3, k4, k5, k6, k7⟩ := ct t (by omega)
  have e0 : tg (va_up N i v) t 0 = tg N t 0 := va_up_ne _ _ k1
  have e1 : tg (va_up N i v) t 1 = tg N t 1 := va_up_ne _ _ k2
  refine ⟨by rw [e0]; exact g1, by rw [e1]; exact g2, by rw [e1, va_up_ne _ _ (Ne.symm h0.1)]; exact g3, bd_up k3 g4, bd_up k4 g5, bd_up k5 g6, bd_up k6 g7, bd_up k7 g8⟩
theorem wfS_cell {N : Nat → Int32} {S : Nat → Int64} (hS : wfS N S) {i : Nat} {v : Int32} (h : i ≠ 12 ∧ i ≠ 13 ∧ i ≠ 15 ∧ i ≠ 16) : wfS (va_up N i v) S := by
  intro j hj
  have e0 : lg (va_up N i v) j 0 = lg N j 0 := va_up_ne _ _ (by omega)
  have e1 : lg (va_up N i v) j 1 = lg N j 1 := va_up_ne _ _ (by omega)
  unfold lowL
  rw [e0, e1]
  exact hS j hj
theorem zb_cell {N : Nat → Int32} {S : Nat → Int64} (z : ZB N S) {i : Nat} {v : Int32} (h : i < 102) : ZB (va_up N i v) S := ⟨fun k hk => by rw [va_up_ne _ _ (by omega)]; exact z.1 k hk, z.2⟩
theorem cell_up {R : RowS} {N : Nat → Int32} {c k c2 k2 i i2 : Nat} {v : Int32} (h1 : (c2 = c ∧ k2 = k) ↔ i2 = i) (h : R.1 c2 k2 = N i2) : (si R c k v).1 c2 k2 = va_up N i v i2 := by
  by_cases q : c2 = c ∧ k2 = k
  · rw [h1.mp q, va_up_self]
    obtain ⟨rfl, rfl⟩ := q
    exact si_at
  · rw [si_ne (by omega), va_up_ne _ _ (fun z => q (h1.mpr z))]
    exact h
theorem rel_cell {R : RowS} {N : Nat → Int32} {S : Nat → Int64} (h : wfN N) (r : Rel R N S) {c k i : Nat} {v : Int32} (h2 : i ≠ 2) (f0 : ∀ k2, k2 < 3 → ((0 = c ∧ k2 = k) ↔ k2 = i)) (f1 : ∀ p, p < 8 → ((1 = c ∧ p = k) ↔ 4 + p = i)) (f2 : ∀ j, j < 2 → ∀ k2, k2 < 3 → ((j + 2 = c ∧ k2 = k) ↔ 12 + 3 * j + k2 = i)) (f3 : ∀ t, t < 12 → ∀ k2, k2 < 7 → ((t + 5 = c ∧ k2 = k) ↔ 18 + 7 * t + k2 = i)) : Rel (si R c k v) (va_up N i v) S := by
  have hc := cnt_le h
  obtain ⟨r1, r2, r3, r4, r5, r6⟩ := r
  refine ⟨cell_up (f0 0 (by decide)) r1, cell_up (f0 1 (by decide)) r2, cell_up (f0 2 (by decide)) r3, fun p hp => cell_up (f1 p hp) (r4 p hp), fun j hj => ⟨cell_up (f2 j hj 0 (by decide)) (r5 j hj).1, cell_up (f2 j hj 1 (by decide)) (r5 j hj).2.1, cell_up (f2 j hj 2 (by decide)) (r5 j hj).2.2.1, (r5 j hj).2.2.2⟩, fun t ht m hm => ?_⟩
  rw [cnt_up h2] at ht
  exact cell_up (f3 t (by omega) m hm) (r6 t ht m hm)
theorem c_presses {R : RowS} {p : Nat} (hp : p < 8) (v : Int32) : f_X3_press R (nI p) v = si R 1 p v := by
  unfold f_X3_press
  rw [if_neg (nI_pos (by omega)), show (8 : Int32) = nI 8 from rfl, if_neg (by rw [nI_leI (by omega) (by omega)]; omega), nI_clamp (by omega)]
  rfl
theorem si_mk {M : RowS} {i : Nat} {v : Int32} : si M 1 i v = mk M (va_up (M.1 1) i v) (M.2 5) := by
  unfold si mk
  rw [up_self]
theorem m_sets {M M1 M2 : RowS} {i : Nat} {v c : Int32} (hi : i < 102) (h1 : f_X8_keeps 200 M = some M1) (h2 : f_X8_settles 200 (mk M1 (va_up (M1.1 1) i v) (M1.2 5)) = some (c, M2)) : f_X8_sets 200 M (nI i) v = some (c, M2) := by
  unfold f_X8_sets
  rw [h1, ob_some, lt_eq, if_pos (by rw [nI_toInt (by omega)]; omega), nI_clamp (by omega), lt_eq, si_mk, h2, ob_some]
  rfl
/-- an operation that writes one cell -/
theorem op_cell {P : RowsS} {G : GlbS} {M : RowS} (I : Inv P G M) {c k i : Nat} {v : Int32} (hi : i < 102) (h : wfN (va_up (M.1 1) i v)) (hS : wfS (va_up (M.1 1) i v) (M.2 5)) (r : Rel (si (P 0) c k v) (va_up (M.1 1) i v) (M.2 5)) : ∃ (y : BS) (P1 : RowsS) (G1 : GlbS) (M1 R2 : RowS), y = settleS (va_up (M.1 1) i v) (M.2 5) ∧ f_X0_keep 200 P G 0 = some (P1, G1) ∧ P1 0 = P 0 ∧ f_X3_settle 200 (si (P 0) c k v) = some (y.1, R2) ∧ f_X8_sets 200 M (nI i) v = some (y.1, mk M1 y.2.1 y.2.2) ∧ (mk M1 y.2.1 y.2.2).1 0 0 = M.1 0 0 ∧ Inv (va_up P1 0 R2) G1 (mk M1 y.2.1 y.2.2) ∧ Good R2 y.2.1 y.2.2 := by
  obtain ⟨P1, G1, M1, k1, k2, k3, k4, k5, k6⟩ := keep_ok I
  have e1 : M1.1 1 = M.1 1 := k5.1 1 (by decide) (by decide)
  have e5 : M1.2 5 = M.2 5 := k5.2.1 5 (by decide)
  have e0 : P1 0 = P 0 := k3 0 (by decide)
  obtain ⟨R2, s1, s2, s3, s4⟩ := finish (P := P1) (G := G1) (M := M1) (R1 := si (P 0) c k v) (rest_keep I k3 k4 k5 k6) h hS (zb_cell I.1.2.2.1 hi) r
  refine ⟨_, P1, G1, M1, R2, rfl, k1, e0, s1, m_sets hi k2 (by rw [e1, e5]; exact s2), ?_, s3, s4⟩
  rw [mk_1n (by decide)]
  exact k5.2.2 0 (by decide)
