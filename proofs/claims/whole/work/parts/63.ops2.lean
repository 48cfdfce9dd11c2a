/-! OPERATIONS 2: undo, snapshot, refill, setMark -/
theorem cpy_all {N N' X : Nat → Int32} (z1 : ∀ k, 102 ≤ k → N k = 0) (z2 : ∀ k, 102 ≤ k → N' k = 0) {b : Nat} (h : ∀ k, k < 102 → X (b + k) = N' k) : va_cpy X N b 0 102 = N' := by
  funext k
  by_cases q : k < 102
  · rw [cpy_at (by omega), Nat.sub_zero, h k q]
  · rw [cpy_no (by omega), z1 k (by omega), z2 k (by omega)]
theorem cpy_allL {S S' X : Nat → Int64} (z1 : ∀ k, 6 ≤ k → S k = 0) (z2 : ∀ k, 6 ≤ k → S' k = 0) {b : Nat} (h : ∀ k, k < 6 → X (b + k) = S' k) : va_cpy X S b 0 6 = S' := by
  funext k
  by_cases q : k < 6
  · rw [cpy_at (by omega), Nat.sub_zero, h k q]
  · rw [cpy_no (by omega), z1 k (by omega), z2 k (by omega)]
section OPS2
variable {P : RowsS} {G : GlbS} {M : RowS}
theorem ok_undo (I : Inv P G M) : OK_undo Inv P G M := by
  unfold OK_undo f_X7_undo f_X8_undo
  have I0 : Inv P G (si M 0 0 0) := I
  simp only [lt]
  generalize si M 0 0 0 = M0 at I0 ⊢
  obtain ⟨o, c, h1, h2, h3, h4, h5, h6⟩ := I0.2.1
  have g := I0.1
  rw [h4, h5]
  by_cases hz : c = 0
  · subst hz
    exact ⟨200, -1, P, G, 200, -1, M0, if_pos rfl, if_pos rfl, rfl, I0⟩
  · obtain ⟨d, rfl⟩ : ∃ d, c = d + 1 := ⟨c - 1, by omega⟩
    have hne : ¬ nI (d + 1) = 0 := nI_ne0 (by omega) (by omega)
    obtain ⟨N', S', g', i2, i3⟩ := h6 d (by omega)
    have hc' := cnt_le g'.1
    obtain ⟨R', k1, k2⟩ := c_copy (R := P 0) (R2 := P ((o + d) % 10 + 3)) (c := cnt N') (n := 200) (by omega) hc' (by rw [g'.2.2.2.2.1.2.2.1, n2 g'.1])
    have gR := good_same k2 g'
    -- the model
    obtain ⟨M1, hM1⟩ : ∃ M1, M1 = si M0 0 9 (nI d) := ⟨_, rfl⟩
    have e9 : M1.1 0 9 = nI d := by rw [hM1]; exact si_at
    have e1 : M1.1 1 = M0.1 1 := by rw [hM1]; rfl
    have e4 : M1.1 4 = M0.1 4 := by rw [hM1]; rfl
    have c1 : f_X8_copies 200 M1 4 1020 (nI (102 * d)) 1 102 0 = _ := m_copies (M := M1) (a := 4) (c := 1) (za := 1020) (zc := 102) (b := 102 * d) (d := 0) (n := 200) (by omega) (by omega) (by omega) (by omega) (by omega)
    have x1 : va_cpy (M1.1 4) (M1.1 1) (102 * d) 0 102 = N' := by rw [e4, e1]; exact cpy_all g.2.2.1.1 g'.2.2.1.1 i2
    rw [x1] at c1
    have c2 : f_X8_copiesLongs 200 (va_up M1.1 1 N', M1.2) 8 60 (nI (6 * d)) 5 6 0 = _ := m_copiesL (M := (va_up M1.1 1 N', M1.2)) (a := 8) (c := 5) (za := 60) (zc := 6) (b := 6 * d) (d := 0) (n := 200) (by omega) (by omega) (by omega) (by omega) (by omega)
    have x2 : va_cpy (M1.2 8) (M1.2 5) (6 * d) 0 6 = S' := by
      have e8 : M1.2 = M0.2 := by rw [hM1]; rfl
      rw [e8]
      exact cpy_allL g.2.2.1.2 g'.2.2.1.2 i3
    have c2' : f_X8_copiesLongs 200 (va_up M1.1 1 N', M1.2) 8 60 (nI (6 * d)) 5 6 0 = some (mk M1 N' S') := by rw [c2]; show some (va_up M1.1 1 N', va_up M1.2 5 (va_cpy (M1.2 8) (M1.2 5) (6 * d) 0 6)) = _; rw [x2]; rfl
    have m1 : (102 : Int32) * nI d = nI (102 * d) := by rw [show (102 : Int32) = nI 102 from rfl, pk_mul]
    have m2 : (6 : Int32) * nI d = nI (6 * d) := by rw [show (6 : Int32) = nI 6 from rfl, pk_mul]
    have ex : (va_up M1.1 1 N') 0 9 = nI d := by rw [va_up_ne _ _ (by decide)]; exact e9
    have em : (mk M1 N' S').1 0 9 = nI d := by rw [mk_1n (by decide)]; exact e9
    refine ⟨200, nI d, va_up P 0 R', sg G 1 2 (nI d), 200, nI d, mk M1 N' S', ?_, ?_, rfl, ?_, ?_⟩
    · rw [if_neg hne]
      unfold f_X0_takeBack
      rw [h3, h4, nI_add, show o + (d + 1) = (o + d) + 1 by omega, nI_pred, fm_dec _ (by omega), ob_some, show (0 : Int32) = nI 0 from rfl, if_neg (by rw [nI_leI (by omega) (by omega)]; omega), if_neg (by rw [nI_ltI (by omega) (by omega)]; omega), show (10 : Int32) = nI 10 from rfl, if_neg (by rw [nI_leI (by omega) (by omega)]; omega), nI_pred, lt_eq, nI_clamp (by omega), if_pos (by omega), k1, ob_some, lt_eq, ob_some]
      simp only [sg_at]
    · rw [if_neg hne, nI_pred, ← hM1, e9, m1, c1, ob_some]
      simp only [ex, m2]
      rw [c2', ob_some]
      simp only [em]
    · rw [va_up_self, mk_1, mk_2]
      exact gR
    · have t := I0.2
      refine ⟨⟨o, d, h1, by omega, by rw [sg_ne (Or.inr (by decide))]; exact h3, sg_at, em, fun i hi => ?_⟩, snap_fr t.2.1 (va_up_ne _ _ (by decide)) (by rw [sg_c (by decide)]) (by rw [mk_1n (by decide), hM1]; rfl) (by rw [mk_2n (by decide), hM1]; rfl) (by rw [mk_1n (by decide), hM1, si_ne (Or.inr (by decide))]), buf_fr t.2.2.1 (by rw [sg_c (by decide)]) (sg_c (by decide)) (by rw [mk_1n (by decide), hM1]; rfl) (by rw [mk_1n (by decide), hM1, si_ne (Or.inr (by decide))]), by rw [sg_c (by decide), mk_1n (by decide), hM1, si_ne (Or.inr (by decide))]; exact t.2.2.2.1, fmt_fr t.2.2.2.2 (by rw [sg_c (by decide)]) (sg_c (by decide)) (by rw [mk_1n (by decide), hM1]; rfl) (by rw [mk_1n (by decide), hM1, si_ne (Or.inr (by decide))])⟩
      obtain ⟨N2, S2, w1, w2, w3⟩ := h6 i (by omega)
      refine ⟨N2, S2, by rw [va_up_ne _ _ (by omega)]; exact w1, fun k hk => ?_, fun k hk => ?_⟩
      · rw [mk_1n (by decide), e4]; exact w2 k hk
      · rw [mk_2n (by decide), hM1]; exact w3 k hk
theorem ok_saveSnapshot (I : Inv P G M) : OK_saveSnapshot Inv P G M := by
  unfold OK_saveSnapshot f_X7_saveSnapshot f_X8_saveSnapshot
  have I0 : Inv P G (si M 0 0 0) := I
  simp only [lt]
  generalize si M 0 0 0 = M0 at I0 ⊢
  have g := I0.1
  have t := I0.2
  have hc := cnt_le g.1
  obtain ⟨R', k1, k2⟩ := c_copy (R := P 2) (R2 := P 0) (c := cnt (M0.1 1)) (n := 200) (by omega) hc (by rw [g.2.2.2.2.1.2.2.1, n2 g.1])
  have gR := good_same k2 g
  have c1 : f_X8_copies 200 M0 1 102 0 2 102 0 = _ := m_copies (M := M0) (a := 1) (c := 2) (za := 102) (zc := 102) (b := 0) (d := 0) (n := 200) (by omega) (by omega) (by omega) (by omega) (by omega)
  have c2 : f_X8_copiesLongs 200 (va_up M0.1 2 (va_cpy (M0.1 1) (M0.1 2) 0 0 102), M0.2) 5 6 0 6 6 0 = _ := m_copiesL (M := (va_up M0.1 2 (va_cpy (M0.1 1) (M0.1 2) 0 0 102), M0.2)) (a := 5) (c := 6) (za := 6) (zc := 6) (b := 0) (d := 0) (n := 200) (by omega) (by omega) (by omega) (by omega) (by omega)
  obtain ⟨M2, hM2⟩ : ∃ M2 : RowS, M2 = si (va_up M0.1 2 (va_cpy (M0.1 1) (M0.1 2) 0 0 102), va_up M0.2 6 (va_cpy (M0.2 5) (M0.2 6) 0 0 6)) 0 10 1 := ⟨_, rfl⟩
  have f1 : ∀ d, d ≠ 0 → d ≠ 2 → M2.1 d = M0.1 d := fun d a b => by rw [hM2]; unfold si; simp only [va_up_ne _ _ a, va_up_ne _ _ b]
  have f2 : ∀ d, d ≠ 6 → M2.2 d = M0.2 d := fun d a => by rw [hM2]; unfold si; simp only [va_up_ne _ _ a]
  have f0 : ∀ k, k ≠ 10 → M2.1 0 k = M0.1 0 k := fun k a => by rw [hM2, si_ne (Or.inr a)]; simp only [va_up_ne _ _ (show 0 ≠ 2 by decide)]
  have f3 : ∀ x, M2.1 2 x = va_cpy (M0.1 1) (M0.1 2) 0 0 102 x := fun x => by rw [hM2, si_ne (Or.inl (by decide))]; simp only [va_up_self]
  have f4 : ∀ x, M2.2 6 x = va_cpy (M0.2 5) (M0.2 6) 0 0 6 x := fun x => by rw [hM2]; unfold si; simp only [va_up_self]
  refine ⟨200, va_up P 2 R', sg G 0 6 1, 200, M2, ?_, ?_, ?_, ?_, ?_, ?_, ?_, ?_⟩
  · rw [k1, ob_some]
  · rw [c1, ob_some, c2, ob_some, hM2]
  · rw [va_up_ne _ _ (by decide), f1 1 (by decide) (by decide), f2 5 (by decide)]
    exact g
  · exact hist_fr t.1 (fun r hr => va_up_ne _ _ (by omega)) (sg_c (by decide)) (f1 4 (by decide) (by decide)) (f2 8 (by decide)) (f0 9 (by decide))
  · right
    refine ⟨sg_at, by rw [hM2]; exact si_at, M0.1 1, M0.2 5, by rw [va_up_self]; exact gR, fun k hk => ?_, fun k hk => ?_⟩
    · rw [f3, cpy_at (by omega), Nat.sub_zero, Nat.zero_add]
    · rw [f4, cpy_at (by omega), Nat.sub_zero, Nat.zero_add]
  · exact buf_fr t.2.2.1 (by rw [sg_c (by decide)]) (sg_c (by decide)) (f1 11 (by decide) (by decide)) (f0 12 (by decide))
  · rw [sg_c (by decide), f0 20 (by decide)]; exact t.2.2.2.1
  · exact fmt_fr t.2.2.2.2 (by rw [sg_c (by decide)]) (sg_c (by decide)) (f1 21 (by decide) (by decide)) (f0 22 (by decide))
theorem ok_restoreSnapshot (I : Inv P G M) : OK_restoreSnapshot Inv P G M := by
  unfold OK_restoreSnapshot f_X7_restoreSnapshot f_X8_restoreSnapshot f_X0_clear
  have I0 : Inv P G (si M 0 0 0) := I
  simp only [lt]
  generalize si M 0 0 0 = M0 at I0 ⊢
  have g := I0.1
  have t := I0.2
  rcases t.2.1 with ⟨s1, s2⟩ | ⟨s1, s2, N', S', g', i2, i3⟩
  · exact ⟨200, false, P, G, 200, false, M0, if_pos s1, if_pos s2, rfl, I0⟩
  · have hc' := cnt_le g'.1
    obtain ⟨R', k1, k2⟩ := c_copy (R := P 0) (R2 := P 2) (c := cnt N') (n := 200) (by omega) hc' (by rw [g'.2.2.2.2.1.2.2.1, n2 g'.1])
    have gR := good_same k2 g'
    have c1 : f_X8_copies 200 M0 2 102 0 1 102 0 = _ := m_copies (M := M0) (a := 2) (c := 1) (za := 102) (zc := 102) (b := 0) (d := 0) (n := 200) (by omega) (by omega) (by omega) (by omega) (by omega)
    have x1 : va_cpy (M0.1 2) (M0.1 1) 0 0 102 = N' := cpy_all g.2.2.1.1 g'.2.2.1.1 (fun k hk => by rw [Nat.zero_add]; exact i2 k hk)
    rw [x1] at c1
    have c2 : f_X8_copiesLongs 200 (va_up M0.1 1 N', M0.2) 6 6 0 5 6 0 = _ := m_copiesL (M := (va_up M0.1 1 N', M0.2)) (a := 6) (c := 5) (za := 6) (zc := 6) (b := 0) (d := 0) (n := 200) (by omega) (by omega) (by omega) (by omega) (by omega)
    have x2 : va_cpy (M0.2 6) (M0.2 5) 0 0 6 = S' := cpy_allL g.2.2.1.2 g'.2.2.1.2 (fun k hk => by rw [Nat.zero_add]; exact i3 k hk)
    have c2' : f_X8_copiesLongs 200 (va_up M0.1 1 N', M0.2) 6 6 0 5 6 0 = some (mk M0 N' S') := by rw [c2]; show some (va_up M0.1 1 N', va_up M0.2 5 (va_cpy (M0.2 6) (M0.2 5) 0 0 6)) = _; rw [x2]; rfl
    obtain ⟨M2, hM2⟩ : ∃ M2 : RowS, M2 = si (mk M0 N' S') 0 9 0 := ⟨_, rfl⟩
    have f1 : ∀ d, d ≠ 0 → d ≠ 1 → M2.1 d = M0.1 d := fun d a b => by rw [hM2]; unfold si; simp only [va_up_ne _ _ a]; exact mk_1n b
    have f2 : ∀ d, d ≠ 5 → M2.2 d = M0.2 d := fun d a => by rw [hM2]; exact mk_2n (N := N') a
    have f0 : ∀ k, k ≠ 9 → M2.1 0 k = M0.1 0 k := fun k a => by rw [hM2, si_ne (Or.inr a), mk_1n (by decide)]
    refine ⟨200, true, va_up P 0 R', sg (sg G 1 1 0) 1 2 0, 200, true, M2, ?_, ?_, rfl, ?_, ?_, ?_, ?_, ?_, ?_⟩
    · rw [if_neg (by rw [s1]; decide), k1, ob_some]
    · rw [if_neg (by rw [s2]; decide), c1, ob_some, c2', ob_some, hM2]
    · rw [va_up_self]
      have a1 : M2.1 1 = N' := by rw [hM2]; exact mk_1 (M := M0) (N := N') (S := S')
      have a2 : M2.2 5 = S' := by rw [hM2]; exact mk_2 (M := M0) (N := N') (S := S')
      rw [a1, a2]
      exact gR
    · exact ⟨0, 0, by decide, by decide, by rw [sg_ne (Or.inr (by decide))]; exact sg_at, sg_at, by rw [hM2]; exact si_at, fun i hi => by omega⟩
    · exact snap_fr t.2.1 (va_up_ne _ _ (by decide)) (by rw [sg_c (by decide), sg_c (by decide)]) (f1 2 (by decide) (by decide)) (f2 6 (by decide)) (f0 10 (by decide))
    · exact buf_fr t.2.2.1 (by rw [sg_c (by decide), sg_c (by decide)]) (by rw [sg_c (by decide), sg_c (by decide)]) (f1 11 (by decide) (by decide)) (f0 12 (by decide))
    · rw [sg_c (by decide), sg_c (by decide), f0 20 (by decide)]; exact t.2.2.2.1
    · exact fmt_fr t.2.2.2.2 (by rw [sg_c (by decide), sg_c (by decide)]) (by rw [sg_c (by decide), sg_c (by decide)]) (f1 21 (by decide) (by decide)) (f0 22 (by decide))
end OPS2
