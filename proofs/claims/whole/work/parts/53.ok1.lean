/-! CALLS 1: the ones that only look -/
theorem ff_t {α : Type} {a b : α} : (if (false : Bool) = true then a else b) = b := if_neg Bool.false_ne_true
theorem tt_t {α : Type} {a b : α} : (if (true : Bool) = true then a else b) = a := if_pos rfl
theorem zz_t {α : Type} {a b : α} : (if (0 : Nat) = 0 then a else b) = a := if_pos rfl
theorem z1_t {α : Type} {a b : α} : (if (1 : Nat) = 0 then a else b) = b := if_neg (by decide)
theorem z2_t {α : Type} {a b : α} : (if (2 : Nat) = 0 then a else b) = b := if_neg (by decide)
theorem n1_0 : ¬ (1 : Int32) = 0 := by decide
theorem n2_0 : ¬ (2 : Int32) = 0 := by decide
section OK1
variable {P : RowsS} {G : GlbS} {M : RowS}
theorem ok_errorPosition (I : Inv P G M) : OK_errorPosition Inv P G M := ⟨_, _, _, rfl, rfl, I.2.2.2.2.1, I⟩
theorem ok_undoCount (I : Inv P G M) : OK_undoCount Inv P G M := by
  obtain ⟨o, c, h1, h2, h3, h4, h5, -⟩ := id I.2.1
  exact ⟨_, _, _, rfl, rfl, by show G 1 2 = M.1 0 9; rw [h4, h5], I⟩
theorem ok_pressure (I : Inv P G M) (a1 : Int32) : OK_pressure Inv P G M a1 := by
  unfold OK_pressure f_X7_pressure t_X7_pressure f_X8_pressure
  have I0 : Inv P G (si M 0 0 0) := I
  have t0 : (si M 0 0 0).1 0 0 = 0 := si_at
  simp only [lt]
  generalize si M 0 0 0 = M0 at I0 t0 ⊢
  have g := I0.1
  rcases point_cases (G := G) g.1 g.2.2.2.2.1.1 a1 with ⟨p, p1, p2, p3, p4, p5, p6⟩ | ⟨p4, p5, p6⟩
  · left
    have e : (4 : Int32) + nI p = nI (4 + p) := by rw [show (4 : Int32) = nI 4 from rfl, nI_add]
    simp only [p4, p5, p6, ob_some, b2i_t, fails_t t0, ff_t]
    subst p3
    refine ⟨_, _, M0, rfl, by rw [e, if_pos (by rw [nI_toInt (by omega)]; omega)], t0, ?_, I0⟩
    rw [nI_clamp (by omega), c_press p1, g.2.2.2.2.1.2.2.2.1 p p1]
  · right
    simp only [p5, p6, ob_some, b2i_f, fails_f t0 n1_0, tt_t, z1_t, true_and]
    exact ⟨_, _, rfl, thr0 1, I0⟩
theorem ok_told (I : Inv P G M) (a1 : Int32) : OK_told Inv P G M a1 := by
  unfold OK_told f_X7_told t_X7_told f_X8_told
  have I0 : Inv P G (si M 0 0 0) := I
  have t0 : (si M 0 0 0).1 0 0 = 0 := si_at
  simp only [lt]
  generalize si M 0 0 0 = M0 at I0 t0 ⊢
  have g := I0.1
  rcases tube_cases (G := G) g.1 g.2.2.2.2.1.2.2.1 a1 with ⟨t, p1, p2, p3, p4, p5, p6⟩ | ⟨p4, p5, p6⟩
  · left
    subst p3
    simp only [p4, p6, ob_some, b2i_t, fails_t t0, ff_t, c_tubeAt (R := P 0) p2, m_whole p2, c_tg g p1 (show 6 < 7 by decide)]
    by_cases h6 : tg (M0.1 1) t 6 = 0
    · refine ⟨_, 100, _, M0, if_pos h6, ?_, t0, rfl, I0⟩
      rw [if_pos h6, ob_some, tt_t, m_told g.1 g.2.1 p1 (by omega), ob_some, c_told g p1]
    · refine ⟨_, 100, _, M0, if_neg h6, ?_, t0, rfl, I0⟩
      rw [if_neg h6, ob_some, ff_t]
  · right
    simp only [p5, p6, ob_some, b2i_f, fails_f t0 n1_0, tt_t, z1_t, true_and]
    exact ⟨100, _, _, rfl, thr0 1, I0⟩
theorem ok_off (I : Inv P G M) (a1 : Int32) : OK_off Inv P G M a1 := by
  unfold OK_off f_X7_off t_X7_off f_X8_off
  have I0 : Inv P G (si M 0 0 0) := I
  have t0 : (si M 0 0 0).1 0 0 = 0 := si_at
  simp only [lt]
  generalize si M 0 0 0 = M0 at I0 t0 ⊢
  have g := I0.1
  rcases tube_cases (G := G) g.1 g.2.2.2.2.1.2.2.1 a1 with ⟨t, p1, p2, p3, p4, p5, p6⟩ | ⟨p4, p5, p6⟩
  · left
    subst p3
    simp only [p4, p6, ob_some, b2i_t, fails_t t0, ff_t, c_tubeAt (R := P 0) p2, m_whole p2, c_tg g p1 (show 6 < 7 by decide)]
    by_cases h6 : tg (M0.1 1) t 6 = 0
    · refine ⟨_, 100, _, M0, if_pos h6, ?_, t0, rfl, I0⟩
      rw [if_pos h6, ob_some, tt_t, m_off g.1 g.2.1 p1 (by omega), ob_some, c_off g p1]
    · refine ⟨_, 100, _, M0, if_neg h6, ?_, t0, rfl, I0⟩
      rw [if_neg h6, ob_some, ff_t]
  · right
    simp only [p5, p6, ob_some, b2i_f, fails_f t0 n1_0, tt_t, z1_t, true_and]
    exact ⟨100, _, _, rfl, thr0 1, I0⟩
theorem ok_room (I : Inv P G M) (a1 : Int32) : OK_room Inv P G M a1 := by
  unfold OK_room f_X7_room t_X7_room f_X8_room
  have I0 : Inv P G (si M 0 0 0) := I
  have t0 : (si M 0 0 0).1 0 0 = 0 := si_at
  simp only [lt]
  generalize si M 0 0 0 = M0 at I0 t0 ⊢
  have g := I0.1
  rcases tube_cases (G := G) g.1 g.2.2.2.2.1.2.2.1 a1 with ⟨t, p1, p2, p3, p4, p5, p6⟩ | ⟨p4, p5, p6⟩
  · left
    subst p3
    simp only [p4, p6, ob_some, b2i_t, fails_t t0, ff_t, c_tubeAt (R := P 0) p2, m_whole p2, c_tg g p1 (show 6 < 7 by decide)]
    by_cases h6 : tg (M0.1 1) t 6 = 0
    · refine ⟨_, 100, _, M0, if_pos h6, ?_, t0, rfl, I0⟩
      rw [if_pos h6, ob_some, tt_t, m_full p2, ob_some, m_column g.1 g.2.1 p1 (by omega), ob_some, c_full g.2.2.2.2.1 p1, c_column g p1]
    · refine ⟨_, 100, _, M0, if_neg h6, ?_, t0, rfl, I0⟩
      rw [if_neg h6, ob_some, ff_t]
  · right
    simp only [p5, p6, ob_some, b2i_f, fails_f t0 n1_0, tt_t, z1_t, true_and]
    exact ⟨100, _, _, rfl, thr0 1, I0⟩
theorem ok_difference (I : Inv P G M) (a1 a2 : Int32) : OK_difference Inv P G M a1 a2 := by
  unfold OK_difference f_X7_difference t_X7_difference f_X8_difference b_X8_difference_26 b_X8_difference_27
  have I0 : Inv P G (si M 0 0 0) := I
  have t0 : (si M 0 0 0).1 0 0 = 0 := si_at
  simp only [lt]
  generalize si M 0 0 0 = M0 at I0 t0 ⊢
  have g := I0.1
  rcases tube_cases (G := G) g.1 g.2.2.2.2.1.2.2.1 a1 with ⟨t, p1, p2, p3, p4, p5, p6⟩ | ⟨p4, p5, p6⟩
  · rcases tube_cases (G := G) g.1 g.2.2.2.2.1.2.2.1 a2 with ⟨u, q1, q2, q3, q4, q5, q6⟩ | ⟨q4, q5, q6⟩
    · left
      subst p3 q3
      simp only [p4, p6, q4, q6, ob_some, fails_t t0, ff_t, tt_t, if_true, if_false, c_tubeAt (R := P 0) p2, c_tubeAt (R := P 0) q2, m_whole p2, m_whole q2, c_tg g p1 (show 6 < 7 by decide), c_tg g q1 (show 6 < 7 by decide)]
      by_cases h6 : tg (M0.1 1) t 6 = 0
      · by_cases k6 : tg (M0.1 1) u 6 = 0
        · refine ⟨_, 100, _, M0, (if_pos h6).trans (if_pos k6), ?_, t0, rfl, I0⟩
          rw [if_pos h6, ob_some, tt_t, if_pos k6, ob_some, tt_t, m_diff g.1 g.2.1 p1 q1 (by omega), ob_some, c_diff g p1 q1]
        · refine ⟨_, 100, _, M0, (if_pos h6).trans (if_neg k6), ?_, t0, rfl, I0⟩
          rw [if_pos h6, ob_some, tt_t, if_neg k6, ob_some, ff_t]
      · refine ⟨_, 100, _, M0, if_neg h6, ?_, t0, rfl, I0⟩
        rw [if_neg h6, ob_some, ff_t]
    · right
      simp only [p4, p5, p6, q5, q6, ob_some, fails_f t0 n1_0, tt_t, ff_t, if_true, if_false, zz_t, z1_t, true_and]
      exact ⟨100, _, _, rfl, thr0 1, I0⟩
  · right
    simp only [p5, p6, ob_some, fails_f t0 n1_0, tt_t, ff_t, if_true, if_false, z1_t, true_and]
    exact ⟨100, _, _, rfl, thr0 1, I0⟩
end OK1
