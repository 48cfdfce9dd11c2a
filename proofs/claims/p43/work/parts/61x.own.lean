/-! OPERATIONS of the class alone, what they share -/
theorem settle_good {R1 : RowS} {N : Nat → Int32} {S : Nat → Int64} (h : wfN N) (hS : wfS N S) (ha : Acc S) (r : Rel R1 N S) : ∃ R2, f_X3_settle 200 R1 = some ((settleS N S).1, R2) ∧ Good R2 (settleS N S).2.1 (settleS N S).2.2 := by
  obtain ⟨R2, s1, s2⟩ := c_settle (n := 200) (by omega) h hS r
  obtain ⟨c, f1, f2, f3, f4, f5, f6, f7, f8⟩ := settle_facts h hS
  exact ⟨R2, s1, f5, f6, acc_settle ha, f8, s2⟩
theorem fin_own {P1 : RowsS} {G1 : GlbS} {R1 : RowS} {N : Nat → Int32} {S : Nat → Int64} (hI : IH G1) (h : wfN N) (hS : wfS N S) (ha : Acc S) (r : Rel R1 N S) : ∃ (y : Int32) (R2 : RowS), f_X3_settle 200 R1 = some (y, R2) ∧ Jn (va_up P1 0 R2) G1 := by
  obtain ⟨R2, s1, s2⟩ := settle_good h hS ha r
  exact ⟨_, R2, s1, ⟨_, _, by rw [va_up_self]; exact s2⟩, hI⟩
theorem keep_own {P : RowsS} {G : GlbS} (hI : IH G) {c' : Nat} (hc : c' ≤ 12) (h2 : (P 0).1 0 2 = nI c') : ∃ P' G', f_X0_keep 200 P G 0 = some (P', G') ∧ (∀ r, r < 3 → P' r = P r) ∧ (∀ d, d ≠ 1 → G' d = G d) ∧ IH G' := by
  obtain ⟨o, c, h1, h2', h3, h4⟩ := hI
  have hat : (o + c) % 10 < 10 := Nat.mod_lt _ (by decide)
  obtain ⟨R', k1, k2⟩ := c_copy (R := P ((o + c) % 10 + 3)) (R2 := P 0) (c := c') (n := 200) (by omega) hc h2
  have st : f_X0_keep 200 P G 0 = b_X0_keep_38 (va_up P ((o + c) % 10 + 3) R') G := by
    unfold f_X0_keep
    rw [h3, h4, nI_add, fm_dec _ (by omega), ob_some, if_neg (nI_pos (by omega)), show (10 : Int32) = nI 10 from rfl, if_neg (by rw [nI_leI (by omega) (by omega)]; omega), nI_clamp (by omega), if_pos (by omega), k1, ob_some, lt_eq]
  by_cases hc10 : c < 10
  · refine ⟨va_up P ((o + c) % 10 + 3) R', sg G 1 2 (nI (c + 1)), ?_, fun r hr => va_up_ne _ _ (by omega), fun d hd => sg_c hd, o, c + 1, h1, by omega, ?_, sg_at⟩
    · rw [st]
      unfold b_X0_keep_38
      rw [h4, show (10 : Int32) = nI 10 from rfl, if_neg (by rw [nI_leI (by omega) (by omega)]; omega), nI_1, lt_eq]
    · rw [sg_ne (Or.inr (by decide))]; exact h3
  · have hc' : c = 10 := by omega
    subst hc'
    refine ⟨va_up P ((o + 10) % 10 + 3) R', sg G 1 1 (nI ((o + 1) % 10)), ?_, fun r hr => va_up_ne _ _ (by omega), fun d hd => sg_c hd, (o + 1) % 10, 10, by omega, by omega, sg_at, ?_⟩
    · rw [st]
      unfold b_X0_keep_38
      rw [h4, if_pos (by decide), h3, nI_1, fm_dec _ (by omega), ob_some, lt_eq]
    · rw [sg_ne (Or.inr (by decide))]; exact h4
theorem keep_good {P : RowsS} {G : GlbS} {N : Nat → Int32} {S : Nat → Int64} (g : Good (P 0) N S) (hI : IH G) : ∃ P' G', f_X0_keep 200 P G 0 = some (P', G') ∧ P' 0 = P 0 ∧ IH G' := by
  obtain ⟨P', G', k1, k2, -, k4⟩ := keep_own (P := P) hI (cnt_le g.1) (by rw [g.2.2.2.2.1.2.2.1, n2 g.1])
  exact ⟨P', G', k1, k2 0 (by decide), k4⟩
/-- an operation that writes one cell -/
theorem op_cell {P : RowsS} {G : GlbS} {N : Nat → Int32} {S : Nat → Int64} (g : Good (P 0) N S) (hI : IH G) {c k i : Nat} {v : Int32} (h : wfN (va_up N i v)) (hS : wfS (va_up N i v) S) (r : Rel (si (P 0) c k v) (va_up N i v) S) : ∃ (P1 : RowsS) (G1 : GlbS) (y : Int32) (R2 : RowS), f_X0_keep 200 P G 0 = some (P1, G1) ∧ P1 0 = P 0 ∧ f_X3_settle 200 (si (P 0) c k v) = some (y, R2) ∧ Jn (va_up P1 0 R2) G1 := by
  obtain ⟨P1, G1, k1, k2, k3⟩ := keep_good g hI
  obtain ⟨y, R2, s1, s2⟩ := fin_own (P1 := P1) k3 h hS g.2.2.1 r
  exact ⟨P1, G1, y, R2, k1, k2, s1, s2⟩
-- what is asked of arguments
theorem within_ok {a lo hi : Int32} (h1 : lo.toInt ≤ a.toInt) (h2 : a.toInt ≤ hi.toInt) : f_X7_requireWithin a lo hi = some () := by
  unfold f_X7_requireWithin
  rw [if_neg (by rw [i32_lt]; omega), if_pos (by rw [i32_le]; omega)]
theorem within_bd {a : Int32} (lo hi : Int32) {l h : Int} (hv : bd a l h) (h1 : lo.toInt = l) (h2 : hi.toInt = h) : f_X7_requireWithin a lo hi = some () := within_ok (by rw [h1]; exact hv.1) (by rw [h2]; exact hv.2)
theorem point_ok {P : RowsS} {G : GlbS} {N : Nat → Int32} {S : Nat → Int64} (g : Good (P 0) N S) {p : Nat} (hp : (p : Int) < (N 0).toInt) : f_X7_requirePoint P G (nI p) = some () ∧ p < 8 := by
  have h0 := g.1.1
  unfold bd at h0
  unfold f_X7_requirePoint
  rw [g.2.2.2.2.1.1, if_neg (nI_pos (by omega)), if_pos (by rw [i32_lt, nI_toInt (by omega)]; exact hp)]
  exact ⟨rfl, by omega⟩
theorem tube_ok {P : RowsS} {G : GlbS} {N : Nat → Int32} {S : Nat → Int64} (g : Good (P 0) N S) {t : Nat} (ht : t < cnt N) : f_X7_requireTube P G (nI t) = some () := by
  have hc := cnt_le g.1
  unfold f_X7_requireTube
  rw [g.2.2.2.2.1.2.2.1, n2 g.1, if_neg (nI_pos (by omega)), if_pos (nI_lt ht (by omega))]
theorem leg_ok {j : Nat} (hj : j < 2) : f_X7_requireLeg (nI j) = some () := by
  rcases (show j = 0 ∨ j = 1 by omega) with rfl | rfl <;> decide
