/-! CALLS 2: size, leg, account, tube -/
section OK2
variable {P : RowsS} {G : GlbS} {M : RowS}
theorem ok_size (I : Inv P G M) (a1 : Int32) : OK_size Inv P G M a1 := by
  unfold OK_size f_X7_size t_X7_size f_X8_size
  have I0 : Inv P G (si M 0 0 0) := I
  have t0 : (si M 0 0 0).1 0 0 = 0 := si_at
  simp only [lt]
  generalize si M 0 0 0 = M0 at I0 t0 ⊢
  have g := I0.1
  have h := g.1
  have r := g.2.2.2.2.1
  by_cases c0 : a1 = 0
  · subst c0
    have hin : f_X8_in (0 : Int32).toInt64 0 7 = true := by decide +kernel
    refine Or.inl ⟨100, M0.1 1 0, 100, M0.1 1 0, M0, ?_, ?_, t0, rfl, I0⟩
    · rw [if_pos (by decide), r.1]
    · simp only [hin, b2i_t, fails_t t0, ff_t]
      rw [if_pos (by decide), if_pos (by decide)]
      rfl
  by_cases c1 : a1 = 1
  · subst c1
    have hin : f_X8_in (1 : Int32).toInt64 0 7 = true := by decide +kernel
    refine Or.inl ⟨100, M0.1 1 1, 100, M0.1 1 1, M0, ?_, ?_, t0, rfl, I0⟩
    · rw [if_neg (by decide), if_pos (by decide), r.2.1]
    · simp only [hin, b2i_t, fails_t t0, ff_t]
      rw [if_neg (by decide), if_pos (by decide), if_pos (by decide)]
      rfl
  by_cases c2 : a1 = 2
  · subst c2
    have hin : f_X8_in (2 : Int32).toInt64 0 7 = true := by decide +kernel
    refine Or.inl ⟨100, M0.1 1 2, 100, M0.1 1 2, M0, ?_, ?_, t0, rfl, I0⟩
    · rw [if_neg (by decide), if_neg (by decide), if_pos (by decide), r.2.2.1]
    · simp only [hin, b2i_t, fails_t t0, ff_t]
      rw [if_neg (by decide), if_neg (by decide), if_pos (by decide), if_pos (by decide)]
      rfl
  by_cases c3 : a1 = 3
  · subst c3
    have hin : f_X8_in (3 : Int32).toInt64 0 7 = true := by decide +kernel
    refine Or.inl ⟨100, cS (M0.1 1) 0 (cnt (M0.1 1)), 100, cS (M0.1 1) 0 (cnt (M0.1 1)), M0, ?_, ?_, t0, rfl, I0⟩
    · rw [if_neg (by decide), if_neg (by decide), if_neg (by decide), if_pos (by decide), c_state h r 0 (by omega), ob_some]
    · simp only [hin, b2i_t, fails_t t0, ff_t]
      rw [if_neg (by decide), if_neg (by decide), if_neg (by decide), if_pos (by decide), m_state h 0 (by omega), ob_some]
  by_cases c4 : a1 = 4
  · subst c4
    have hin : f_X8_in (4 : Int32).toInt64 0 7 = true := by decide +kernel
    refine Or.inl ⟨100, cS (M0.1 1) 1 (cnt (M0.1 1)), 100, cS (M0.1 1) 1 (cnt (M0.1 1)), M0, ?_, ?_, t0, rfl, I0⟩
    · rw [if_neg (by decide), if_neg (by decide), if_neg (by decide), if_neg (by decide), if_pos (by decide), c_state h r 1 (by omega), ob_some]
    · simp only [hin, b2i_t, fails_t t0, ff_t]
      rw [if_neg (by decide), if_neg (by decide), if_neg (by decide), if_neg (by decide), if_pos (by decide), m_state h 1 (by omega), ob_some]
  by_cases c5 : a1 = 5
  · subst c5
    have hin : f_X8_in (5 : Int32).toInt64 0 7 = true := by decide +kernel
    refine Or.inl ⟨100, cS (M0.1 1) 2 (cnt (M0.1 1)), 100, cS (M0.1 1) 2 (cnt (M0.1 1)), M0, ?_, ?_, t0, rfl, I0⟩
    · rw [if_neg (by decide), if_neg (by decide), if_neg (by decide), if_neg (by decide), if_neg (by decide), if_pos (by decide), c_state h r 2 (by omega), ob_some]
    · simp only [hin, b2i_t, fails_t t0, ff_t]
      rw [if_neg (by decide), if_neg (by decide), if_neg (by decide), if_neg (by decide), if_neg (by decide), if_pos (by decide), m_state h 2 (by omega), ob_some]
  by_cases c6 : a1 = 6
  · subst c6
    have hin : f_X8_in (6 : Int32).toInt64 0 7 = true := by decide +kernel
    refine Or.inl ⟨100, lS (M0.1 1) 0 (cnt (M0.1 1)), 100, lS (M0.1 1) 0 (cnt (M0.1 1)), M0, ?_, ?_, t0, rfl, I0⟩
    · rw [if_neg (by decide), if_neg (by decide), if_neg (by decide), if_neg (by decide), if_neg (by decide), if_neg (by decide), if_pos (by decide), c_inleg h r 0 (by omega), ob_some]
    · simp only [hin, b2i_t, fails_t t0, ff_t]
      rw [if_neg (by decide), if_neg (by decide), if_neg (by decide), if_neg (by decide), if_neg (by decide), if_neg (by decide), show (6 : Int32) - 6 = 0 from by decide, m_inleg h 0 (by omega), ob_some]
  by_cases c7 : a1 = 7
  · subst c7
    have hin : f_X8_in (7 : Int32).toInt64 0 7 = true := by decide +kernel
    refine Or.inl ⟨100, lS (M0.1 1) 1 (cnt (M0.1 1)), 100, lS (M0.1 1) 1 (cnt (M0.1 1)), M0, ?_, ?_, t0, rfl, I0⟩
    · rw [if_neg (by decide), if_neg (by decide), if_neg (by decide), if_neg (by decide), if_neg (by decide), if_neg (by decide), if_neg (by decide), if_pos (by decide), c_inleg h r 1 (by omega), ob_some]
    · simp only [hin, b2i_t, fails_t t0, ff_t]
      rw [if_neg (by decide), if_neg (by decide), if_neg (by decide), if_neg (by decide), if_neg (by decide), if_neg (by decide), show (7 : Int32) - 6 = 1 from by decide, m_inleg h 1 (by omega), ob_some]
  right
  have hin : f_X8_in a1.toInt64 0 7 = false := in_f (fun q => by
    rw [i32_ext] at q
    have d0 : (0 : Int64).toInt = 0 := rfl
    have d7 : (7 : Int64).toInt = 7 := rfl
    rw [d0, d7] at q
    have k0 : a1.toInt ≠ 0 := fun z => c0 (i32_eq (by rw [z]; rfl))
    have k1 : a1.toInt ≠ 1 := fun z => c1 (i32_eq (by rw [z]; rfl))
    have k2 : a1.toInt ≠ 2 := fun z => c2 (i32_eq (by rw [z]; rfl))
    have k3 : a1.toInt ≠ 3 := fun z => c3 (i32_eq (by rw [z]; rfl))
    have k4 : a1.toInt ≠ 4 := fun z => c4 (i32_eq (by rw [z]; rfl))
    have k5 : a1.toInt ≠ 5 := fun z => c5 (i32_eq (by rw [z]; rfl))
    have k6 : a1.toInt ≠ 6 := fun z => c6 (i32_eq (by rw [z]; rfl))
    have k7 : a1.toInt ≠ 7 := fun z => c7 (i32_eq (by rw [z]; rfl))
    omega)
  simp only [hin, b2i_f, fails_f t0 n1_0, tt_t]
  refine ⟨100, _, _, ?_, rfl, thr0 1, I0⟩
  rw [if_neg c0, if_neg c1, if_neg c2, if_neg c3, if_neg c4, if_neg c5, if_neg c6, if_neg c7]
theorem ok_leg (I : Inv P G M) (a1 a2 : Int32) : OK_leg Inv P G M a1 a2 := by
  unfold OK_leg f_X7_leg t_X7_leg f_X8_leg b_X8_leg_29 b_X8_leg_30
  have I0 : Inv P G (si M 0 0 0) := I
  have t0 : (si M 0 0 0).1 0 0 = 0 := si_at
  simp only [lt]
  generalize si M 0 0 0 = M0 at I0 t0 ⊢
  have g := I0.1
  have h := g.1
  have r := g.2.2.2.2.1
  rcases leg_cases a1 with ⟨j, p1, p2, p4, p5, p6⟩ | ⟨p4, p5, p6⟩
  · subst p2
    have rj := r.2.2.2.2.1 j p1
    simp only [p4, p5, p6, ob_some, c_legAt (R := P 0) p1, zz_t, fails_t t0, fails_f t0 n1_0, ff_t, tt_t, if_true, if_false]
    by_cases c0 : a2 = 0
    · subst c0
      have hin : f_X8_in (0 : Int32).toInt64 0 3 = true := by decide +kernel
      refine Or.inl ⟨lg (M0.1 1) j 0, 100, lg (M0.1 1) j 0, M0, ?_, ?_, t0, rfl, I0⟩
      · rw [if_pos rfl, rj.1]
      · rw [hin, tt_t, if_neg (by decide), m_leg0 p1, ob_some]
    by_cases c1 : a2 = 1
    · subst c1
      have hin : f_X8_in (1 : Int32).toInt64 0 3 = true := by decide +kernel
      refine Or.inl ⟨lg (M0.1 1) j 1, 100, lg (M0.1 1) j 1, M0, ?_, ?_, t0, rfl, I0⟩
      · rw [if_neg (by decide), if_pos rfl, rj.2.1]
      · rw [hin, tt_t, if_neg (by decide), m_leg1 p1, ob_some]
    by_cases c2 : a2 = 2
    · subst c2
      have hin : f_X8_in (2 : Int32).toInt64 0 3 = true := by decide +kernel
      refine Or.inl ⟨lg (M0.1 1) j 2, 100, lg (M0.1 1) j 2, M0, ?_, ?_, t0, rfl, I0⟩
      · rw [if_neg (by decide), if_neg (by decide), if_pos rfl, rj.2.2.1]
      · rw [hin, tt_t, if_neg (by decide), m_leg2 p1, ob_some]
    by_cases c3 : a2 = 3
    · subst c3
      have hin : f_X8_in (3 : Int32).toInt64 0 3 = true := by decide +kernel
      refine Or.inl ⟨(levS (M0.1 1) (M0.2 5) j).toInt32, 100, (levS (M0.1 1) (M0.2 5) j).toInt32, M0, ?_, ?_, t0, rfl, I0⟩
      · rw [if_neg (by decide), if_neg (by decide), if_neg (by decide), if_pos rfl, g.2.2.2.2.2.2.1 j p1]
      · rw [hin, tt_t, if_pos rfl, m_level h g.2.1 p1 (by omega), ob_some]
    right
    have hin : f_X8_in a2.toInt64 0 3 = false := in_f (fun q => by
      rw [i32_ext] at q
      have d0 : (0 : Int64).toInt = 0 := rfl
      have d7 : (3 : Int64).toInt = 3 := rfl
      rw [d0, d7] at q
      have k0 : a2.toInt ≠ 0 := fun z => c0 (i32_eq (by rw [z]; rfl))
      have k1 : a2.toInt ≠ 1 := fun z => c1 (i32_eq (by rw [z]; rfl))
      have k2 : a2.toInt ≠ 2 := fun z => c2 (i32_eq (by rw [z]; rfl))
      have k3 : a2.toInt ≠ 3 := fun z => c3 (i32_eq (by rw [z]; rfl))
      omega)
    refine ⟨100, 0, si M0 0 0 1, ?_, by rw [hin, ff_t], thr0 1, I0⟩
    rw [if_neg c0, if_neg c1, if_neg c2, if_neg c3]
  · right
    simp only [p5, p6, ob_some, fails_f t0 n1_0, tt_t, ff_t, if_true, if_false, z1_t, true_and]
    exact ⟨100, _, _, rfl, thr0 1, I0⟩
theorem ok_account (I : Inv P G M) (a1 a2 : Int32) : OK_account Inv P G M a1 a2 := by
  unfold OK_account f_X7_account t_X7_account f_X8_account b_X8_account_29 b_X8_account_30
  have I0 : Inv P G (si M 0 0 0) := I
  have t0 : (si M 0 0 0).1 0 0 = 0 := si_at
  simp only [lt]
  generalize si M 0 0 0 = M0 at I0 t0 ⊢
  have g := I0.1
  have h := g.1
  have r := g.2.2.2.2.1
  rcases leg_cases a1 with ⟨j, p1, p2, p4, p5, p6⟩ | ⟨p4, p5, p6⟩
  · subst p2
    have rj := r.2.2.2.2.1 j p1
    have rl := g.2.2.2.2.2.2.1 j p1
    have hv := c_vols h r g.2.2.2.2.2.1 (j := j) (levS (M0.1 1) (M0.2 5) j) (n := 100) (by omega)
    have mv := m_vols (M := M0) h (j := j) (levS (M0.1 1) (M0.2 5) j) (n := 100) (by omega)
    have ml := m_level (M := M0) h g.2.1 p1 (n := 100) (by omega)
    have i0 : 0 ≤ (nI j).toInt ∧ (nI j).toInt < 6 := by rw [nI_toInt (by omega)]; omega
    have e2 : (2 : Int32) + nI j = nI (2 + j) := by rw [show (2 : Int32) = nI 2 from rfl, nI_add]
    have e4 : (4 : Int32) + nI j = nI (4 + j) := by rw [show (4 : Int32) = nI 4 from rfl, nI_add]
    have i2 : 0 ≤ (nI (2 + j)).toInt ∧ (nI (2 + j)).toInt < 6 := by rw [nI_toInt (by omega)]; omega
    have i4 : 0 ≤ (nI (4 + j)).toInt ∧ (nI (4 + j)).toInt < 6 := by rw [nI_toInt (by omega)]; omega
    have n0 : (nI j).toNatClampNeg = j := nI_clamp (by omega)
    have n2 : (nI (2 + j)).toNatClampNeg = 2 + j := nI_clamp (by omega)
    have n4 : (nI (4 + j)).toNatClampNeg = 4 + j := nI_clamp (by omega)
    unfold f_X8_leftOf
    simp only [p4, p5, p6, ob_some, c_legAt (R := P 0) p1, zz_t, fails_t t0, fails_f t0 n1_0, ff_t, tt_t, if_true, if_false, rl, rj.1, rj.2.1, rj.2.2.1, rj.2.2.2.1, rj.2.2.2.2.1, rj.2.2.2.2.2]
    by_cases c0 : a2 = 0
    · subst c0
      have hin : f_X8_in (0 : Int32).toInt64 0 4 = true := by decide +kernel
      refine Or.inl ⟨100, M0.2 5 j, 100, M0.2 5 j, M0, ?_, ?_, t0, rfl, I0⟩
      · rw [hv, ob_some, if_pos rfl]
      · rw [hin, tt_t, if_pos rfl, m_stock, if_pos i0, n0]
    by_cases c1 : a2 = 1
    · subst c1
      have hin : f_X8_in (1 : Int32).toInt64 0 4 = true := by decide +kernel
      refine Or.inl ⟨100, volS (M0.1 1) j (levS (M0.1 1) (M0.2 5) j) (cnt (M0.1 1)), 100, volS (M0.1 1) j (levS (M0.1 1) (M0.2 5) j) (cnt (M0.1 1)), M0, ?_, ?_, t0, rfl, I0⟩
      · rw [hv, ob_some, if_neg (by decide), if_pos rfl]
      · rw [hin, tt_t, if_neg (by decide), if_pos rfl, ml, ob_some, mv, ob_some]
    by_cases c2 : a2 = 2
    · subst c2
      have hin : f_X8_in (2 : Int32).toInt64 0 4 = true := by decide +kernel
      refine Or.inl ⟨100, M0.2 5 (2 + j), 100, M0.2 5 (2 + j), M0, ?_, ?_, t0, rfl, I0⟩
      · rw [hv, ob_some, if_neg (by decide), if_neg (by decide), if_pos rfl]
      · rw [hin, tt_t, if_neg (by decide), if_neg (by decide), if_pos rfl, e2, if_pos i2, n2]
    by_cases c3 : a2 = 3
    · subst c3
      have hin : f_X8_in (3 : Int32).toInt64 0 4 = true := by decide +kernel
      refine Or.inl ⟨100, M0.2 5 (4 + j), 100, M0.2 5 (4 + j), M0, ?_, ?_, t0, rfl, I0⟩
      · rw [hv, ob_some, if_neg (by decide), if_neg (by decide), if_neg (by decide), if_pos rfl]
      · rw [hin, tt_t, if_neg (by decide), if_neg (by decide), if_neg (by decide), if_pos rfl, e4, if_pos i4, n4]
    by_cases c4 : a2 = 4
    · subst c4
      have hin : f_X8_in (4 : Int32).toInt64 0 4 = true := by decide +kernel
      refine Or.inl ⟨100, ((M0.2 5 j) - ((lg (M0.1 1) j 1).toInt64 * levS (M0.1 1) (M0.2 5) j)) - volS (M0.1 1) j (levS (M0.1 1) (M0.2 5) j) (cnt (M0.1 1)), 100, ((M0.2 5 j) - ((lg (M0.1 1) j 1).toInt64 * levS (M0.1 1) (M0.2 5) j)) - volS (M0.1 1) j (levS (M0.1 1) (M0.2 5) j) (cnt (M0.1 1)), M0, ?_, ?_, t0, rfl, I0⟩
      · rw [hv, ob_some, if_neg (by decide), if_neg (by decide), if_neg (by decide), if_neg (by decide), if_pos rfl]
      · rw [hin, tt_t, if_neg (by decide), if_neg (by decide), if_neg (by decide), if_neg (by decide), ml, ob_some, m_stock, if_pos i0, n0, m_leg1 p1, ob_some, mv, ob_some, ob_some]
    right
    have hin : f_X8_in a2.toInt64 0 4 = false := in_f (fun q => by
      rw [i32_ext] at q
      have d0 : (0 : Int64).toInt = 0 := rfl
      have d7 : (4 : Int64).toInt = 4 := rfl
      rw [d0, d7] at q
      have k0 : a2.toInt ≠ 0 := fun z => c0 (i32_eq (by rw [z]; rfl))
      have k1 : a2.toInt ≠ 1 := fun z => c1 (i32_eq (by rw [z]; rfl))
      have k2 : a2.toInt ≠ 2 := fun z => c2 (i32_eq (by rw [z]; rfl))
      have k3 : a2.toInt ≠ 3 := fun z => c3 (i32_eq (by rw [z]; rfl))
      have k4 : a2.toInt ≠ 4 := fun z => c4 (i32_eq (by rw [z]; rfl))
      omega)
    refine ⟨100, 100, 0, si M0 0 0 1, ?_, by rw [hin, ff_t], thr0 1, I0⟩
    rw [hv, ob_some, if_neg c0, if_neg c1, if_neg c2, if_neg c3, if_neg c4]
  · right
    simp only [p5, p6, ob_some, fails_f t0 n1_0, tt_t, ff_t, if_true, if_false, z1_t, true_and]
    exact ⟨100, 100, _, _, rfl, thr0 1, I0⟩
theorem ok_tube (I : Inv P G M) (a1 a2 : Int32) : OK_tube Inv P G M a1 a2 := by
  unfold OK_tube f_X7_tube t_X7_tube f_X8_tube b_X8_tube_30 b_X8_tube_31 b_X7_tube_15 tb_X7_tube_15
  have I0 : Inv P G (si M 0 0 0) := I
  have t0 : (si M 0 0 0).1 0 0 = 0 := si_at
  simp only [lt]
  generalize si M 0 0 0 = M0 at I0 t0 ⊢
  have g := I0.1
  have h := g.1
  have r := g.2.2.2.2.1
  rcases tube_cases (G := G) g.1 g.2.2.2.2.1.2.2.1 a1 with ⟨t, p1, p2, p3, p4, p5, p6⟩ | ⟨p4, p5, p6⟩
  · subst p3
    simp only [p4, p5, p6, ob_some, zz_t, fails_t t0, fails_f t0 n1_0, ff_t, tt_t, if_true, if_false]
    by_cases c0 : a2 = 0
    · subst c0
      have hin : f_X8_in (0 : Int32).toInt64 0 10 = true := by decide +kernel
      refine Or.inl ⟨tg (M0.1 1) t 0, 100, tg (M0.1 1) t 0, M0, ?_, ?_, t0, rfl, I0⟩
      · rw [if_neg (by decide), if_pos (by decide), c_num0 p2, c_tg g p1 (show 0 < 7 by decide)]
      · rw [hin, tt_t, if_neg (by decide), if_neg (by decide), if_neg (by decide), if_neg (by decide), m_of0 p2, ob_some]
    by_cases c1 : a2 = 1
    · subst c1
      have hin : f_X8_in (1 : Int32).toInt64 0 10 = true := by decide +kernel
      refine Or.inl ⟨tg (M0.1 1) t 1, 100, tg (M0.1 1) t 1, M0, ?_, ?_, t0, rfl, I0⟩
      · rw [if_neg (by decide), if_pos (by decide), c_num1 p2, c_tg g p1 (show 1 < 7 by decide)]
      · rw [hin, tt_t, if_neg (by decide), if_neg (by decide), if_neg (by decide), if_neg (by decide), m_of1 p2, ob_some]
    by_cases c2 : a2 = 2
    · subst c2
      have hin : f_X8_in (2 : Int32).toInt64 0 10 = true := by decide +kernel
      refine Or.inl ⟨tg (M0.1 1) t 2, 100, tg (M0.1 1) t 2, M0, ?_, ?_, t0, rfl, I0⟩
      · rw [if_neg (by decide), if_pos (by decide), c_num2 p2, c_tg g p1 (show 2 < 7 by decide)]
      · rw [hin, tt_t, if_neg (by decide), if_neg (by decide), if_neg (by decide), if_neg (by decide), m_of2 p2, ob_some]
    by_cases c3 : a2 = 3
    · subst c3
      have hin : f_X8_in (3 : Int32).toInt64 0 10 = true := by decide +kernel
      refine Or.inl ⟨tg (M0.1 1) t 3, 100, tg (M0.1 1) t 3, M0, ?_, ?_, t0, rfl, I0⟩
      · rw [if_neg (by decide), if_pos (by decide), c_num3 p2, c_tg g p1 (show 3 < 7 by decide)]
      · rw [hin, tt_t, if_neg (by decide), if_neg (by decide), if_neg (by decide), if_neg (by decide), m_of3 p2, ob_some]
    by_cases c4 : a2 = 4
    · subst c4
      have hin : f_X8_in (4 : Int32).toInt64 0 10 = true := by decide +kernel
      refine Or.inl ⟨tg (M0.1 1) t 4, 100, tg (M0.1 1) t 4, M0, ?_, ?_, t0, rfl, I0⟩
      · rw [if_neg (by decide), if_pos (by decide), c_num4 p2, c_tg g p1 (show 4 < 7 by decide)]
      · rw [hin, tt_t, if_neg (by decide), if_neg (by decide), if_neg (by decide), if_neg (by decide), m_of4 p2, ob_some]
    by_cases c5 : a2 = 5
    · subst c5
      have hin : f_X8_in (5 : Int32).toInt64 0 10 = true := by decide +kernel
      refine Or.inl ⟨tg (M0.1 1) t 5, 100, tg (M0.1 1) t 5, M0, ?_, ?_, t0, rfl, I0⟩
      · rw [if_neg (by decide), if_pos (by decide), c_num5 p2, c_tg g p1 (show 5 < 7 by decide)]
      · rw [hin, tt_t, if_neg (by decide), if_neg (by decide), if_neg (by decide), if_neg (by decide), m_of5 p2, ob_some]
    by_cases c6 : a2 = 6
    · subst c6
      have hin : f_X8_in (6 : Int32).toInt64 0 10 = true := by decide +kernel
      refine Or.inl ⟨tg (M0.1 1) t 6, 100, tg (M0.1 1) t 6, M0, ?_, ?_, t0, rfl, I0⟩
      · rw [if_neg (by decide), if_pos (by decide), c_num6 p2, c_tg g p1 (show 6 < 7 by decide)]
      · rw [hin, tt_t, if_neg (by decide), if_neg (by decide), if_neg (by decide), if_neg (by decide), m_of6 p2, ob_some]
    by_cases c7 : a2 = 7
    · subst c7
      have hin : f_X8_in (7 : Int32).toInt64 0 10 = true := by decide +kernel
      refine Or.inl ⟨columnS (M0.1 1) (M0.2 5) t, 100, columnS (M0.1 1) (M0.2 5) t, M0, ?_, ?_, t0, rfl, I0⟩
      · rw [if_neg (by decide), if_pos (by decide), c_num7 p2, c_column g p1]
      · rw [hin, tt_t, if_pos rfl, m_column h g.2.1 p1 (by omega), ob_some]
    by_cases c8 : a2 = 8
    · subst c8
      have hin : f_X8_in (8 : Int32).toInt64 0 10 = true := by decide +kernel
      refine Or.inl ⟨readS (M0.1 1) (M0.2 5) t, 100, readS (M0.1 1) (M0.2 5) t, M0, ?_, ?_, t0, rfl, I0⟩
      · rw [if_neg (by decide), if_pos (by decide), c_num8 p2, c_reading g p1]
      · rw [hin, tt_t, if_neg (by decide), if_pos rfl, m_reading h g.2.1 p1 (by omega), ob_some]
    by_cases c9 : a2 = 9
    · subst c9
      have hin : f_X8_in (9 : Int32).toInt64 0 10 = true := by decide +kernel
      refine Or.inl ⟨pullS (M0.1 1) t, 100, pullS (M0.1 1) t, M0, ?_, ?_, t0, rfl, I0⟩
      · rw [if_neg (by decide), if_pos (by decide), c_num9 p2, (g.2.2.2.2.2.1 t p1).1]
      · rw [hin, tt_t, if_neg (by decide), if_neg (by decide), if_pos rfl, m_pull h p1, ob_some]
    by_cases c10 : a2 = 10
    · subst c10
      have hin : f_X8_in (10 : Int32).toInt64 0 10 = true := by decide +kernel
      refine Or.inl ⟨menS (M0.1 1) t, 100, menS (M0.1 1) t, M0, ?_, ?_, t0, rfl, I0⟩
      · rw [if_neg (by decide), if_pos (by decide), c_num10 p2, (g.2.2.2.2.2.1 t p1).2]
      · rw [hin, tt_t, if_neg (by decide), if_neg (by decide), if_neg (by decide), if_pos rfl, m_men h p1, ob_some]
    right
    have hq : a2.toInt < 0 ∨ 10 < a2.toInt := by
      have k0 : a2.toInt ≠ 0 := fun z => c0 (i32_eq (by rw [z]; rfl))
      have k1 : a2.toInt ≠ 1 := fun z => c1 (i32_eq (by rw [z]; rfl))
      have k2 : a2.toInt ≠ 2 := fun z => c2 (i32_eq (by rw [z]; rfl))
      have k3 : a2.toInt ≠ 3 := fun z => c3 (i32_eq (by rw [z]; rfl))
      have k4 : a2.toInt ≠ 4 := fun z => c4 (i32_eq (by rw [z]; rfl))
      have k5 : a2.toInt ≠ 5 := fun z => c5 (i32_eq (by rw [z]; rfl))
      have k6 : a2.toInt ≠ 6 := fun z => c6 (i32_eq (by rw [z]; rfl))
      have k7 : a2.toInt ≠ 7 := fun z => c7 (i32_eq (by rw [z]; rfl))
      have k8 : a2.toInt ≠ 8 := fun z => c8 (i32_eq (by rw [z]; rfl))
      have k9 : a2.toInt ≠ 9 := fun z => c9 (i32_eq (by rw [z]; rfl))
      have k10 : a2.toInt ≠ 10 := fun z => c10 (i32_eq (by rw [z]; rfl))
      omega
    have d0 : (0 : Int64).toInt = 0 := rfl
    have d7 : (10 : Int64).toInt = 10 := rfl
    have d1 : (0 : Int32).toInt = 0 := rfl
    have d2 : (10 : Int32).toInt = 10 := rfl
    have hin : f_X8_in a2.toInt64 0 10 = false := in_f (fun q => by
      rw [i32_ext, d0, d7] at q
      omega)
    refine ⟨100, 0, si M0 0 0 1, ?_, by rw [hin, ff_t], thr0 1, I0⟩
    by_cases q1 : a2 < 0
    · rw [if_pos q1]
    · rw [if_neg q1, if_neg (fun q => by rw [i32_lt] at q1; rw [i32_le] at q; omega)]
  · right
    simp only [p5, p6, ob_some, fails_f t0 n1_0, tt_t, ff_t, if_true, if_false, z1_t, true_and]
    exact ⟨100, _, _, rfl, thr0 1, I0⟩
end OK2
