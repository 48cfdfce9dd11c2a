/-! LOAD 4: load -/
section BEG
variable {P : RowsS} {G : GlbS} {M : RowS}
/-- what is not of tokens stays -/
def ME (M M' : RowS) : Prop := (∀ c, c ≠ 0 → M'.1 c = M.1 c) ∧ (∀ c, c ≠ 0 → M'.2 c = M.2 c) ∧ M'.1 0 12 = 0 ∧ ∀ k, k ≠ 12 → k ≠ 13 → k ≠ 14 → k ≠ 15 → k ≠ 16 → k ≠ 17 → k ≠ 19 → k ≠ 20 → M'.1 0 k = M.1 0 k
def GE (G G' : GlbS) : Prop := (∀ c, c ≠ 3 → G' c = G c) ∧ G' 3 1 = G 3 1
theorem begin_ts {f L : Nat} (hf : f ≤ 600) (hL : L ≤ f) (hB : BY f G M) : ∃ G' M', f_X5_begin 1000 G (nI L) = some G' ∧ f_X8_starts 1000 M (nI L) = some M' ∧ (∃ q r, TS L q r G' M') ∧ GE G G' ∧ ME M M' := by
  have ej : jmin (nI L) 600 = nI L := by
    unfold jmin
    rw [if_neg (by rw [show (600 : Int32) = nI 600 from rfl, nI_ltI (by omega) (by omega)]; omega)]
  obtain ⟨G1, hG1⟩ : ∃ G1, G1 = sg (sg (sg (sg G 3 2 (nI L)) 3 3 0) 3 7 0) 3 8 (-1) := ⟨_, rfl⟩
  obtain ⟨M1, hM1⟩ : ∃ M1, M1 = si (si (si (si (si M 0 13 (nI L)) 0 12 0) 0 14 0) 0 19 0) 0 20 (-1) := ⟨_, rfl⟩
  have gc : ∀ c, c ≠ 3 → G1 c = G c := fun c hc => by rw [hG1, sg_c hc, sg_c hc, sg_c hc, sg_c hc]
  have mc : ∀ c, c ≠ 0 → M1.1 c = M.1 c := fun c hc => by rw [hM1]; unfold si; simp only [va_up_ne _ _ hc]
  have ml : M1.2 = M.2 := by rw [hM1]; rfl
  have g2 : G1 3 2 = nI L := by rw [hG1, sg_ne (Or.inr (by decide)), sg_ne (Or.inr (by decide)), sg_ne (Or.inr (by decide))]; exact sg_at
  have g3 : G1 3 3 = nI 0 := by rw [hG1, sg_ne (Or.inr (by decide)), sg_ne (Or.inr (by decide))]; exact sg_at
  have g7 : G1 3 7 = 0 := by rw [hG1, sg_ne (Or.inr (by decide))]; exact sg_at
  have g8 : G1 3 8 = -1 := by rw [hG1]; exact sg_at
  have g1 : G1 3 1 = G 3 1 := by rw [hG1, sg_ne (Or.inr (by decide)), sg_ne (Or.inr (by decide)), sg_ne (Or.inr (by decide)), sg_ne (Or.inr (by decide))]
  have m13 : M1.1 0 13 = nI L := by rw [hM1, si_ne (Or.inr (by decide)), si_ne (Or.inr (by decide)), si_ne (Or.inr (by decide)), si_ne (Or.inr (by decide))]; exact si_at
  have m12 : M1.1 0 12 = 0 := by rw [hM1, si_ne (Or.inr (by decide)), si_ne (Or.inr (by decide)), si_ne (Or.inr (by decide))]; exact si_at
  have m14 : M1.1 0 14 = nI 0 := by rw [hM1, si_ne (Or.inr (by decide)), si_ne (Or.inr (by decide))]; exact si_at
  have m19 : M1.1 0 19 = 0 := by rw [hM1, si_ne (Or.inr (by decide))]; exact si_at
  have m20 : M1.1 0 20 = -1 := by rw [hM1]; exact si_at
  obtain ⟨G', M', q, r, a1, a2, a3, a4, a5, a6⟩ := adv_ok0 g2 g3 (Nat.zero_le L) (by omega) ⟨g7, m19, g8, m20⟩ ⟨m13, m14⟩ (fun k hk => by rw [gc 4 (by decide), mc 11 (by decide)]; exact hB k (by omega))
  refine ⟨G', M', ?_, ?_, ⟨q, r, a4⟩, ⟨fun c hc => (a5.1 c hc).trans (gc c hc), (a5.2 1 (by decide)).trans g1⟩, fun c hc => (a6.1 c hc).trans (mc c hc), fun c hc => by rw [a6.2.1 c hc, ml], ?_, fun k k1 k2 k3 k4 k5 k6 k7 k8 => ?_⟩
  · unfold f_X5_begin
    simp only [lt]
    rw [ej, ← hG1, a1]
    rfl
  · unfold f_X8_starts
    simp only [lt]
    rw [← hM1, a2]
    rfl
  · rw [a6.2.2 12 (by decide) (by decide) (by decide) (by decide) (by decide) (by decide)]; exact m12
  · rw [a6.2.2 k k3 k4 k5 k6 k7 k8, hM1, si_ne (Or.inr k8), si_ne (Or.inr k7), si_ne (Or.inr k3), si_ne (Or.inr k1), si_ne (Or.inr k2)]
theorem begin_ok {f L : Nat} (hf : f ≤ 600) (hL : L ≤ f) (hB : BY f G M) : ∃ G' M', f_X5_begin 1000 G (nI L) = some G' ∧ f_X8_starts 1000 M (nI L) = some M' ∧ TT L 0 G' M' ∧ GE G G' ∧ ME M M' := by
  obtain ⟨G', M', a1, a2, ⟨q, r, a3⟩, a4, a5⟩ := begin_ts hf hL hB
  exact ⟨G', M', a1, a2, Or.inl ⟨q, r, Nat.zero_le q, a3⟩, a4, a5⟩
theorem aside_n (M : RowS) : ∃ A, f_X8_laysAside 1000 M = some A ∧ AFr A M := by
  have c1 : f_X8_copies 1000 M 1 102 0 3 102 0 = _ := m_copies (M := M) (a := 1) (c := 3) (za := 102) (zc := 102) (b := 0) (d := 0) (n := 1000) (by omega) (by omega) (by omega) (by omega) (by omega)
  have c2 : f_X8_copiesLongs 1000 (va_up M.1 3 (va_cpy (M.1 1) (M.1 3) 0 0 102), M.2) 5 6 0 7 6 0 = _ := m_copiesL (M := (va_up M.1 3 (va_cpy (M.1 1) (M.1 3) 0 0 102), M.2)) (a := 5) (c := 7) (za := 6) (zc := 6) (b := 0) (d := 0) (n := 1000) (by omega) (by omega) (by omega) (by omega) (by omega)
  obtain ⟨A, hA⟩ : ∃ A : RowS, A = (va_up M.1 3 (va_cpy (M.1 1) (M.1 3) 0 0 102), va_up M.2 7 (va_cpy (M.2 5) (M.2 7) 0 0 6)) := ⟨_, rfl⟩
  refine ⟨A, ?_, fun c hc => by rw [hA]; simp only [va_up_ne _ _ hc], fun c hc => by rw [hA]; simp only [va_up_ne _ _ hc], fun k hk => ?_, fun k hk => ?_⟩
  · unfold f_X8_laysAside
    rw [c1, ob_some, lt_eq, c2, ob_some, hA]
    rfl
  · rw [hA]
    simp only [va_up_self]
    rw [cpy_at (by omega), Nat.sub_zero, Nat.zero_add]
  · rw [hA]
    simp only [va_up_self]
    rw [cpy_at (by omega), Nat.sub_zero, Nat.zero_add]
theorem back_n {A : RowS} {N : Nat → Int32} {S : Nat → Int64} (h3 : ∀ k, k < 102 → A.1 3 k = N k) (h7 : ∀ k, k < 6 → A.2 7 k = S k) (z : ZB N S) (z' : ZM A) : f_X8_laysBack 1000 A = some (mk A N S) := by
  have c1 : f_X8_copies 1000 A 3 102 0 1 102 0 = _ := m_copies (M := A) (a := 3) (c := 1) (za := 102) (zc := 102) (b := 0) (d := 0) (n := 1000) (by omega) (by omega) (by omega) (by omega) (by omega)
  have x1 : va_cpy (A.1 3) (A.1 1) 0 0 102 = N := cpy_all z'.1 z.1 (fun k hk => by rw [Nat.zero_add]; exact h3 k hk)
  rw [x1] at c1
  have c2 : f_X8_copiesLongs 1000 (va_up A.1 1 N, A.2) 7 6 0 5 6 0 = _ := m_copiesL (M := (va_up A.1 1 N, A.2)) (a := 7) (c := 5) (za := 6) (zc := 6) (b := 0) (d := 0) (n := 1000) (by omega) (by omega) (by omega) (by omega) (by omega)
  have x2 : va_cpy (A.2 7) (A.2 5) 0 0 6 = S := cpy_allL z'.2 z.2 (fun k hk => by rw [Nat.zero_add]; exact h7 k hk)
  unfold f_X8_laysBack
  rw [c1, ob_some, lt_eq, c2, ob_some]
  show some (va_up A.1 1 N, va_up A.2 5 (va_cpy (A.2 7) (A.2 5) 0 0 6)) = _
  rw [x2]
  rfl
theorem settle_goodn {R1 : RowS} {N : Nat → Int32} {S : Nat → Int64} (h : wfN N) (hS : wfS N S) (hz : ZB N S) (r : Rel R1 N S) : ∃ R2, f_X3_settle 1000 R1 = some ((settleS N S).1, R2) ∧ Good R2 (settleS N S).2.1 (settleS N S).2.2 := by
  obtain ⟨R2, s1, s2⟩ := c_settle (n := 1000) (by omega) h hS r
  obtain ⟨c, f1, f2, f3, f4, f5, f6, f7, f8⟩ := settle_facts h hS
  exact ⟨R2, s1, f5, f6, zb_set hz f4 f7, f8, s2⟩
theorem tt_end {e m : Nat} (h : TT e m G M) : G 3 7 = M.1 0 19 ∧ G 3 8 = M.1 0 20 := by
  rcases h with ⟨s, p, _, h⟩ | h
  · exact ⟨by rw [h.2.1.1, h.2.1.2.1], by rw [h.2.1.2.2.1, h.2.1.2.2.2]⟩
  · exact ⟨h.2.2.1.symm, h.2.2.2⟩
end BEG
