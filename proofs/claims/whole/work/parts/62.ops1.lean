/-! OPERATIONS 1: those that write one cell -/
section OPS1
variable {P : RowsS} {G : GlbS} {M : RowS}
theorem ok_setPressure (I : Inv P G M) (a1 a2 : Int32) : OK_setPressure Inv P G M a1 a2 := by
  unfold OK_setPressure f_X7_setPressure t_X7_setPressure f_X8_setPressure
  have I0 : Inv P G (si M 0 0 0) := I
  have t0 : (si M 0 0 0).1 0 0 = 0 := si_at
  simp only [lt, isPress_eq]
  generalize si M 0 0 0 = M0 at I0 t0 ⊢
  have g := I0.1
  have h := g.1
  rcases point_cases (G := G) g.1 g.2.2.2.2.1.1 a1 with ⟨p, p1, p2, p3, p4, p5, p6⟩ | ⟨p4, p5, p6⟩
  · rcases within_cases a2 0 99999 (lo6 := 0) (hi6 := 99999) rfl rfl with ⟨q1, q2, q4, q5, q6⟩ | ⟨q4, q5, q6⟩
    · left
      subst p3
      obtain ⟨y, P1, G1, M1, R2, hy, k1, k2, k3, k4, k5, k6, k7⟩ := op_cell (c := 1) (k := p) (i := 4 + p) (v := a2) I0 (by omega) (wf_cell h (by omega) (by omega) (fun q hq e => ⟨q1, q2⟩) (fun j hj => ⟨by omega, by omega, by omega⟩) (fun t ht => ⟨by omega, by omega, by omega, by omega, by omega, by omega, by omega⟩)) (wfS_cell g.2.1 (by omega)) (rel_cell h g.2.2.2.2.1 (by omega) (fun k hk => by omega) (fun q hq => by omega) (fun j hj k hk => by omega) (fun t ht k hk => by omega))
      have e : (4 : Int32) + nI p = nI (4 + p) := by rw [show (4 : Int32) = nI 4 from rfl, nI_add]
      simp only [p4, p6, q4, q6, ob_some, b2i_t, fails_t t0, ff_t, e]
      refine ⟨200, y.1, va_up P1 0 R2, G1, 200, y.1, mk M1 y.2.1 y.2.2, ?_, ?_, k5.trans t0, rfl, k6⟩
      · rw [k1, ob_some]
        simp only [c_presses p1, va_up_self, up_up, k2, k3, ob_some]
      · rw [k4, ob_some]
    · right; right
      simp only [p4, p5, p6, q5, q6, ob_some, b2i_t, b2i_f, fails_t t0, fails_f t0 n2_0, ff_t, tt_t, if_true, if_false, zz_t, z2_t, true_and]
      exact ⟨100, _, _, rfl, thr0 2, I0⟩
  · right; left
    simp only [p5, p6, ob_some, b2i_f, fails_f t0 n1_0, tt_t, if_true, if_false, z1_t, true_and]
    exact ⟨100, _, _, rfl, thr0 1, I0⟩
theorem ok_setReference (I : Inv P G M) (a1 : Int32) : OK_setReference Inv P G M a1 := by
  unfold OK_setReference f_X7_setReference t_X7_setReference f_X8_setReference
  have I0 : Inv P G (si M 0 0 0) := I
  have t0 : (si M 0 0 0).1 0 0 = 0 := si_at
  simp only [lt, isPress_eq]
  generalize si M 0 0 0 = M0 at I0 t0 ⊢
  have g := I0.1
  have h := g.1
  rcases within_cases a1 0 99999 (lo6 := 0) (hi6 := 99999) rfl rfl with ⟨q1, q2, q4, q5, q6⟩ | ⟨q4, q5, q6⟩
  · left
    obtain ⟨y, P1, G1, M1, R2, hy, k1, k2, k3, k4, k5, k6, k7⟩ := op_cell (c := 0) (k := 1) (i := 1) (v := a1) I0 (by omega) (wf_cell h (by omega) (fun e => ⟨q1, q2⟩) (fun q hq e => by omega) (fun j hj => ⟨by omega, by omega, by omega⟩) (fun t ht => ⟨by omega, by omega, by omega, by omega, by omega, by omega, by omega⟩)) (wfS_cell g.2.1 (by omega)) (rel_cell h g.2.2.2.2.1 (by omega) (fun k hk => by omega) (fun q hq => by omega) (fun j hj k hk => by omega) (fun t ht k hk => by omega))
    have e : f_X8_sets 200 M0 1 a1 = _ := k4
    simp only [q4, q6, ob_some, b2i_t, fails_t t0, ff_t]
    refine ⟨200, y.1, va_up P1 0 R2, G1, 200, y.1, mk M1 y.2.1 y.2.2, ?_, ?_, k5.trans t0, rfl, k6⟩
    · rw [k1, ob_some]
      simp only [va_up_self, up_up, k2, k3, ob_some]
    · rw [e, ob_some]
  · right
    simp only [q5, q6, ob_some, b2i_f, fails_f t0 n1_0, ff_t, tt_t, if_true, if_false, z2_t, true_and]
    exact ⟨100, _, _, rfl, thr0 1, I0⟩
theorem ok_setSlant (I : Inv P G M) (a1 a2 : Int32) : OK_setSlant Inv P G M a1 a2 := by
  unfold OK_setSlant f_X7_setSlant t_X7_setSlant f_X8_setSlant
  have I0 : Inv P G (si M 0 0 0) := I
  have t0 : (si M 0 0 0).1 0 0 = 0 := si_at
  simp only [lt, isSlant_eq]
  generalize si M 0 0 0 = M0 at I0 t0 ⊢
  have g := I0.1
  have h := g.1
  rcases tube_cases (G := G) g.1 g.2.2.2.2.1.2.2.1 a1 with ⟨t, p1, p2, p3, p4, p5, p6⟩ | ⟨p4, p5, p6⟩
  · rcases within_cases a2 50 1000 (lo6 := 50) (hi6 := 1000) rfl rfl with ⟨q1, q2, q4, q5, q6⟩ | ⟨q4, q5, q6⟩
    · left
      subst p3
      obtain ⟨y, P1, G1, M1, R2, hy, k1, k2, k3, k4, k5, k6, k7⟩ := op_cell (c := t + 5) (k := 3) (i := 18 + 7 * t + 3) (v := a2) I0 (by omega) (wf_cell h (by omega) (fun e => by omega) (fun q hq e => by omega) (fun j hj => ⟨by omega, by omega, by omega⟩) (fun u hu => ⟨by omega, by omega, by omega, fun _ => ⟨q1, q2⟩, by omega, by omega, by omega⟩)) (wfS_cell g.2.1 (by omega)) (rel_cell h g.2.2.2.2.1 (by omega) (fun k hk => by omega) (fun q hq => by omega) (fun j hj k hk => by omega) (fun t ht k hk => by omega))
      have e : f_X8_cell (nI t) 3 = nI (18 + 7 * t + 3) := m_cell t 3
      simp only [p4, p6, q4, q6, ob_some, b2i_t, fails_t t0, ff_t, e]
      refine ⟨200, y.1, va_up P1 0 R2, G1, 200, y.1, mk M1 y.2.1 y.2.2, ?_, ?_, k5.trans t0, rfl, k6⟩
      · rw [k1, ob_some]
        simp only [c_tubeAt p2, va_up_self, up_up, k2, k3, ob_some]
      · rw [k4, ob_some]
    · right; right
      simp only [p4, p5, p6, q5, q6, ob_some, b2i_t, b2i_f, fails_t t0, fails_f t0 n2_0, ff_t, tt_t, if_true, if_false, zz_t, z2_t, true_and]
      exact ⟨100, _, _, rfl, thr0 2, I0⟩
  · right; left
    simp only [p5, p6, ob_some, b2i_f, fails_f t0 n1_0, tt_t, if_true, if_false, z1_t, true_and]
    exact ⟨100, _, _, rfl, thr0 1, I0⟩
theorem ok_setCurve (I : Inv P G M) (a1 a2 : Int32) : OK_setCurve Inv P G M a1 a2 := by
  unfold OK_setCurve f_X7_setCurve t_X7_setCurve f_X8_setCurve
  have I0 : Inv P G (si M 0 0 0) := I
  have t0 : (si M 0 0 0).1 0 0 = 0 := si_at
  simp only [lt]
  generalize si M 0 0 0 = M0 at I0 t0 ⊢
  have g := I0.1
  have h := g.1
  rcases leg_cases a1 with ⟨j, p1, p3, p4, p5, p6⟩ | ⟨p4, p5, p6⟩
  · rcases within_cases a2 (-9999) 9999 (lo6 := -9999) (hi6 := 9999) rfl rfl with ⟨q1, q2, q4, q5, q6⟩ | ⟨q4, q5, q6⟩
    · left
      subst p3
      obtain ⟨y, P1, G1, M1, R2, hy, k1, k2, k3, k4, k5, k6, k7⟩ := op_cell (c := j + 2) (k := 2) (i := 12 + 3 * j + 2) (v := a2) I0 (by omega) (wf_cell h (by omega) (fun e => by omega) (fun q hq e => by omega) (fun u hu => ⟨by omega, by omega, fun _ => ⟨q1, q2⟩⟩) (fun u hu => ⟨by omega, by omega, by omega, by omega, by omega, by omega, by omega⟩)) (wfS_cell g.2.1 (by omega)) (rel_cell h g.2.2.2.2.1 (by omega) (fun k hk => by omega) (fun q hq => by omega) (fun j hj k hk => by omega) (fun t ht k hk => by omega))
      have e : (12 + 3 * nI j) + 2 = nI (12 + 3 * j + 2) := m_legcell j 2
      simp only [p4, p6, q4, q6, ob_some, b2i_t, fails_t t0, ff_t, e]
      refine ⟨200, y.1, va_up P1 0 R2, G1, 200, y.1, mk M1 y.2.1 y.2.2, ?_, ?_, k5.trans t0, rfl, k6⟩
      · rw [k1, ob_some]
        simp only [c_legAt p1, va_up_self, up_up, k2, k3, ob_some]
      · rw [k4, ob_some]
    · right; right
      simp only [p4, p5, p6, q5, q6, ob_some, b2i_t, b2i_f, fails_t t0, fails_f t0 n2_0, ff_t, tt_t, if_true, if_false, zz_t, z2_t, true_and]
      exact ⟨100, _, _, rfl, thr0 2, I0⟩
  · right; left
    simp only [p5, p6, ob_some, b2i_f, fails_f t0 n1_0, tt_t, if_true, if_false, z1_t, true_and]
    exact ⟨100, _, _, rfl, thr0 1, I0⟩
theorem ok_mend (I : Inv P G M) (a1 : Int32) : OK_mend Inv P G M a1 := by
  unfold OK_mend f_X7_mend t_X7_mend f_X8_mend
  have I0 : Inv P G (si M 0 0 0) := I
  have t0 : (si M 0 0 0).1 0 0 = 0 := si_at
  simp only [lt]
  generalize si M 0 0 0 = M0 at I0 t0 ⊢
  have g := I0.1
  have h := g.1
  rcases tube_cases (G := G) g.1 g.2.2.2.2.1.2.2.1 a1 with ⟨t, p1, p2, p3, p4, p5, p6⟩ | ⟨p4, p5, p6⟩
  · left
    subst p3
    have e : f_X8_cell (nI t) 6 = nI (18 + 7 * t + 6) := m_cell t 6
    simp only [p4, p6, ob_some, b2i_t, fails_t t0, ff_t, c_tubeAt (R := P 0) p2, m_whole p2, c_tg g p1 (show 6 < 7 by decide), e]
    by_cases h6 : tg (M0.1 1) t 6 = 0
    · refine ⟨200, -2, P, G, 200, -2, M0, if_pos h6, ?_, t0, rfl, I0⟩
      rw [if_pos h6, ob_some, tt_t]
    · obtain ⟨y, P1, G1, M1, R2, hy, k1, k2, k3, k4, k5, k6, k7⟩ := op_cell (c := t + 5) (k := 6) (i := 18 + 7 * t + 6) (v := 0) I0 (by omega) (wf_cell h (by omega) (fun e => by omega) (fun q hq e => by omega) (fun j hj => ⟨by omega, by omega, by omega⟩) (fun u hu => ⟨by omega, by omega, by omega, by omega, by omega, by omega, fun _ => by unfold bd; decide⟩)) (wfS_cell g.2.1 (by omega)) (rel_cell h g.2.2.2.2.1 (by omega) (fun k hk => by omega) (fun q hq => by omega) (fun j hj k hk => by omega) (fun t ht k hk => by omega))
      have hset := settle_facts (N := va_up (M0.1 1) (18 + 7 * t + 6) 0) (S := M0.2 5) (wf_cell h (by omega) (fun e => by omega) (fun q hq e => by omega) (fun j hj => ⟨by omega, by omega, by omega⟩) (fun u hu => ⟨by omega, by omega, by omega, by omega, by omega, by omega, fun _ => by unfold bd; decide⟩)) (wfS_cell g.2.1 (by omega))
      obtain ⟨c, f1, f2, f3, f4, f5, f6, f7, f8⟩ := hset
      rw [← hy] at f4
      have hcnt : t < cnt y.2.1 := by rw [st_cnt f4, cnt_up (by omega)]; exact p1
      refine ⟨200, tg y.2.1 t 6, va_up P1 0 R2, G1, 200, tg y.2.1 t 6, mk M1 y.2.1 y.2.2, ?_, ?_, k5.trans t0, rfl, k6⟩
      · rw [if_neg h6, k1, ob_some]
        simp only [va_up_self, up_up, k2, k3, ob_some, c_tg k7 hcnt (show 6 < 7 by decide)]
      · rw [if_neg h6, ob_some, ff_t, k4, ob_some, m_of6 p2, ob_some, mk_1]
  · right
    simp only [p5, p6, ob_some, b2i_f, fails_f t0 n1_0, tt_t, if_true, if_false, z1_t, true_and]
    exact ⟨100, _, _, rfl, thr0 1, I0⟩
end OPS1
