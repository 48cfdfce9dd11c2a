/-! FORECASTS 1 -/
section ASIDE
variable {P : RowsS} {G : GlbS} {M : RowS}
def AFr (A M : RowS) : Prop := (∀ c, c ≠ 3 → A.1 c = M.1 c) ∧ (∀ c, c ≠ 7 → A.2 c = M.2 c) ∧ (∀ k, k < 102 → A.1 3 k = M.1 1 k) ∧ (∀ k, k < 6 → A.2 7 k = M.2 5 k)
theorem aside_ok (M : RowS) : ∃ A, f_X8_laysAside 200 M = some A ∧ AFr A M := by
  have c1 : f_X8_copies 200 M 1 102 0 3 102 0 = _ := m_copies (M := M) (a := 1) (c := 3) (za := 102) (zc := 102) (b := 0) (d := 0) (n := 200) (by omega) (by omega) (by omega) (by omega) (by omega)
  have c2 : f_X8_copiesLongs 200 (va_up M.1 3 (va_cpy (M.1 1) (M.1 3) 0 0 102), M.2) 5 6 0 7 6 0 = _ := m_copiesL (M := (va_up M.1 3 (va_cpy (M.1 1) (M.1 3) 0 0 102), M.2)) (a := 5) (c := 7) (za := 6) (zc := 6) (b := 0) (d := 0) (n := 200) (by omega) (by omega) (by omega) (by omega) (by omega)
  obtain ⟨A, hA⟩ : ∃ A : RowS, A = (va_up M.1 3 (va_cpy (M.1 1) (M.1 3) 0 0 102), va_up M.2 7 (va_cpy (M.2 5) (M.2 7) 0 0 6)) := ⟨_, rfl⟩
  refine ⟨A, ?_, fun c hc => by rw [hA]; simp only [va_up_ne _ _ hc], fun c hc => by rw [hA]; simp only [va_up_ne _ _ hc], fun k hk => ?_, fun k hk => ?_⟩
  · unfold f_X8_laysAside
    rw [c1, ob_some, lt_eq, c2, ob_some, hA]
    rfl
  · rw [hA]
    simp only [va_up_self]
    rw [cpy_at (by omega), Nat.sub_zero, Nat.zero_add]
  · rw [hA]
    simp only [va_up_self]
    rw [cpy_at (by omega), Nat.sub_zero, Nat.zero_add]
theorem back_ok {A : RowS} {N N' : Nat → Int32} {S S' : Nat → Int64} (h3 : ∀ k, k < 102 → A.1 3 k = N k) (h7 : ∀ k, k < 6 → A.2 7 k = S k) (z : ZB N S) (z' : ZB N' S') : f_X8_laysBack 200 (mk A N' S') = some (mk A N S) := by
  have c1 : f_X8_copies 200 (mk A N' S') 3 102 0 1 102 0 = _ := m_copies (M := mk A N' S') (a := 3) (c := 1) (za := 102) (zc := 102) (b := 0) (d := 0) (n := 200) (by omega) (by omega) (by omega) (by omega) (by omega)
  have x1 : va_cpy ((mk A N' S').1 3) ((mk A N' S').1 1) 0 0 102 = N := by
    rw [mk_1, mk_1n (by decide)]
    exact cpy_all z'.1 z.1 (fun k hk => by rw [Nat.zero_add]; exact h3 k hk)
  rw [x1] at c1
  have c2 : f_X8_copiesLongs 200 (va_up (mk A N' S').1 1 N, (mk A N' S').2) 7 6 0 5 6 0 = _ := m_copiesL (M := (va_up (mk A N' S').1 1 N, (mk A N' S').2)) (a := 7) (c := 5) (za := 6) (zc := 6) (b := 0) (d := 0) (n := 200) (by omega) (by omega) (by omega) (by omega) (by omega)
  have x2 : va_cpy ((mk A N' S').2 7) ((mk A N' S').2 5) 0 0 6 = S := by
    rw [mk_2, mk_2n (by decide)]
    exact cpy_allL z'.2 z.2 (fun k hk => by rw [Nat.zero_add]; exact h7 k hk)
  unfold f_X8_laysBack
  rw [c1, ob_some, lt_eq, c2, ob_some]
  show some (va_up (mk A N' S').1 1 N, va_up (mk A N' S').2 5 (va_cpy ((mk A N' S').2 7) ((mk A N' S').2 5) 0 0 6)) = _
  rw [x2]
  unfold mk
  rw [up_up, up_up]
theorem aside_inv {A R : RowS} (I : Inv P G M) (a : AFr A M) : Inv (va_up P 1 R) G (mk A (M.1 1) (M.2 5)) ∧ (mk A (M.1 1) (M.2 5)).1 0 0 = M.1 0 0 := by
  obtain ⟨a1, a2, a3, a4⟩ := a
  obtain ⟨g, t1, t2, t3, t4, t5⟩ := I
  have f1 : ∀ d, d ≠ 1 → d ≠ 3 → (mk A (M.1 1) (M.2 5)).1 d = M.1 d := fun d h1 h3 => by rw [mk_1n h1, a1 d h3]
  have f2 : ∀ d, d ≠ 5 → d ≠ 7 → (mk A (M.1 1) (M.2 5)).2 d = M.2 d := fun d h1 h3 => by rw [mk_2n (N := M.1 1) h1, a2 d h3]
  refine ⟨⟨?_, hist_fr t1 (fun r hr => va_up_ne _ _ (by omega)) rfl (f1 4 (by decide) (by decide)) (f2 8 (by decide) (by decide)) (by rw [f1 0 (by decide) (by decide)]), snap_fr t2 (va_up_ne _ _ (by decide)) rfl (f1 2 (by decide) (by decide)) (f2 6 (by decide) (by decide)) (by rw [f1 0 (by decide) (by decide)]), buf_fr t3 rfl rfl (f1 11 (by decide) (by decide)) (by rw [f1 0 (by decide) (by decide)]), by rw [f1 0 (by decide) (by decide)]; exact t4, fmt_fr t5 rfl rfl (f1 21 (by decide) (by decide)) (by rw [f1 0 (by decide) (by decide)])⟩, by rw [f1 0 (by decide) (by decide)]⟩
  rw [va_up_ne _ _ (by decide), mk_1, mk_2]
  exact g
/-- a change of one cell, tried aside -/
theorem try_cell (I : Inv P G M) {c k i : Nat} {v : Int32} (hi : i < 102) (h : wfN (va_up (M.1 1) i v)) (hS : wfS (va_up (M.1 1) i v) (M.2 5)) (r : ∀ R, Rel R (M.1 1) (M.2 5) → Rel (si R c k v) (va_up (M.1 1) i v) (M.2 5)) : ∃ (y : BS) (A R1 R2 : RowS), y = settleS (va_up (M.1 1) i v) (M.2 5) ∧ f_X3_copyFrom 200 (P 1) (P 0) = some R1 ∧ f_X3_settle 200 (si R1 c k v) = some (y.1, R2) ∧ Good R2 y.2.1 y.2.2 ∧ f_X8_laysAside 200 M = some A ∧ AFr A M ∧ f_X8_settles 200 (si A 1 i v) = some (y.1, mk A y.2.1 y.2.2) ∧ f_X8_laysBack 200 (mk A y.2.1 y.2.2) = some (mk A (M.1 1) (M.2 5)) ∧ SetF (va_up (M.1 1) i v) (M.2 5) y := by
  have g := I.1
  have hc := cnt_le g.1
  obtain ⟨R1, k1, k2⟩ := c_copy (R := P 1) (R2 := P 0) (c := cnt (M.1 1)) (n := 200) (by omega) hc (by rw [g.2.2.2.2.1.2.2.1, n2 g.1])
  obtain ⟨A, a1, a2⟩ := aside_ok M
  obtain ⟨R2, s1, s2⟩ := settle_good h hS (zb_cell g.2.2.1 hi) (r R1 (rel_same k2 g.2.2.2.2.1))
  have e1 : A.1 1 = M.1 1 := a2.1 1 (by decide)
  have e5 : A.2 5 = M.2 5 := a2.2.1 5 (by decide)
  refine ⟨_, A, R1, R2, rfl, k1, s1, s2, a1, a2, ?_, back_ok a2.2.2.1 a2.2.2.2 g.2.2.1 s2.2.2.1, settle_facts h hS⟩
  rw [si_mk, e1, e5]
  exact m_settle h hS (by omega)
theorem ok_lostWith (I : Inv P G M) (a1 : Int32) : OK_lostWith Inv P G M a1 := by
  unfold OK_lostWith f_X7_lostWith t_X7_lostWith f_X8_lostWith
  have I0 : Inv P G (si M 0 0 0) := I
  have t0 : (si M 0 0 0).1 0 0 = 0 := si_at
  simp only [lt, isPress_eq]
  generalize si M 0 0 0 = M0 at I0 t0 ⊢
  have g := I0.1
  have h := g.1
  have e1 : (1 : Int32).toNatClampNeg = 1 := rfl
  rcases within_cases a1 0 99999 (lo6 := 0) (hi6 := 99999) rfl rfl with ⟨q1, q2, q4, q5, q6⟩ | ⟨q4, q5, q6⟩
  · left
    obtain ⟨y, A, R1, R2, hy, k1, k2, k3, k4, k5, k6, k7, k8⟩ := try_cell (c := 0) (k := 1) (i := 1) (v := a1) I0 (by omega) (wf_cell h (by omega) (fun e => ⟨q1, q2⟩) (fun q hq e => by omega) (fun j hj => ⟨by omega, by omega, by omega⟩) (fun t ht => ⟨by omega, by omega, by omega, by omega, by omega, by omega, by omega⟩)) (wfS_cell g.2.1 (by omega)) (fun R r => rel_cell h r (by omega) (fun k hk => by omega) (fun q hq => by omega) (fun j hj k hk => by omega) (fun t ht k hk => by omega))
    have ai := aside_inv (R := R2) I0 k5
    simp only [q4, q6, ob_some, b2i_t, fails_t t0, ff_t, e1]
    refine ⟨200, y.1, va_up P 1 R2, 200, y.1, mk A (M0.1 1) (M0.2 5), ?_, ?_, ai.2.trans t0, rfl, ai.1⟩
    · rw [k1, ob_some]
      simp only [va_up_self, up_up, k2, ob_some]
    · rw [k4, ob_some, if_pos (by decide), k6, ob_some, k7, ob_some]
  · right
    simp only [q5, q6, ob_some, b2i_f, fails_f t0 n1_0, ff_t, tt_t, if_true, if_false, z2_t, true_and]
    exact ⟨100, _, _, rfl, thr0 1, I0⟩
theorem ok_readingWith (I : Inv P G M) (a1 a2 a3 : Int32) : OK_readingWith Inv P G M a1 a2 a3 := by
  unfold OK_readingWith f_X7_readingWith t_X7_readingWith f_X8_readingWith b_X8_readingWith_26 b_X8_readingWith_27 f_X7_tryPressure
  have I0 : Inv P G (si M 0 0 0) := I
  have t0 : (si M 0 0 0).1 0 0 = 0 := si_at
  simp only [lt, isPress_eq]
  generalize si M 0 0 0 = M0 at I0 t0 ⊢
  have g := I0.1
  have h := g.1
  have r := g.2.2.2.2.1
  rcases tube_cases (G := G) h r.2.2.1 a1 with ⟨t, p1, p2, p3, p4, p5, p6⟩ | ⟨p4, p5, p6⟩
  · rcases point_cases (G := G) h r.1 a2 with ⟨p, o1, o2, o3, o4, o5, o6⟩ | ⟨o4, o5, o6⟩
    · rcases within_cases a3 0 99999 (lo6 := 0) (hi6 := 99999) rfl rfl with ⟨q1, q2, q4, q5, q6⟩ | ⟨q4, q5, q6⟩
      · left
        subst p3 o3
        obtain ⟨y, A, R1, R2, hy, k1, k2, k3, k4, k5, k6, k7, k8⟩ := try_cell (c := 1) (k := p) (i := 4 + p) (v := a3) I0 (by omega) (press_wf h o1 ⟨q1, q2⟩) (wfS_cell g.2.1 (by omega)) (fun R r => press_rel h r o1)
        have ai := aside_inv (R := R2) I0 k5
        have e : (4 : Int32) + nI p = nI (4 + p) := by rw [show (4 : Int32) = nI 4 from rfl, nI_add]
        obtain ⟨c, s0, s1, s2, s3, s4, s5, s6, s7⟩ := k8
        have hty : t < cnt y.2.1 := by rw [st_cnt s3, cnt_up (by omega)]; exact p1
        simp only [p4, p6, o4, o6, q4, q6, ob_some, b2i_t, fails_t t0, ff_t, tt_t, if_true, if_false, e]
        refine ⟨200, readS y.2.1 y.2.2 t, va_up P 1 R2, 200, readS y.2.1 y.2.2 t, mk A (M0.1 1) (M0.2 5), ?_, ?_, ai.2.trans t0, rfl, ai.1⟩
        · rw [k1, ob_some]
          simp only [va_up_self, up_up, c_presses o1, k2, ob_some, c_tubeAt p2, c_reading k3 hty]
        · have hr := m_reading (M := mk A y.2.1 y.2.2) (t := t) (by rw [mk_1]; exact s4) (by rw [mk_1, mk_2]; exact s5) (by rw [mk_1]; exact hty) (n := 200) (by omega)
          rw [mk_1, mk_2] at hr
          rw [k4, ob_some, if_pos (by rw [nI_toInt (by omega)]; omega), nI_clamp (by omega), k6, ob_some, hr, ob_some, k7, ob_some]
      · right; right
        simp only [p4, p5, p6, o4, o5, o6, q5, q6, ob_some, b2i_t, b2i_f, fails_t t0, fails_f t0 n2_0, ff_t, tt_t, if_true, if_false, zz_t, z2_t, true_and]
        exact ⟨100, _, _, rfl, thr0 2, I0⟩
    · right; left
      simp only [p4, p5, p6, o5, o6, ob_some, fails_f t0 n1_0, ff_t, tt_t, if_true, if_false, zz_t, z1_t, true_and]
      exact ⟨100, _, _, rfl, thr0 1, I0⟩
  · right; left
    simp only [p5, p6, ob_some, fails_f t0 n1_0, ff_t, tt_t, if_true, if_false, z1_t, true_and]
    exact ⟨100, _, _, rfl, thr0 1, I0⟩
def bb (N N2 : Nat → Int32) : Nat → Int32
  | 0 => 0
  | n + 1 => if tg N n 6 = 0 then (if tg N2 n 6 = 0 then bb N N2 n else bb N N2 n ||| ((1 : Int32) <<< (nI n &&& 31))) else bb N N2 n
theorem ok_wouldBreak (I : Inv P G M) (a1 a2 : Int32) : OK_wouldBreak Inv P G M a1 a2 := by
  unfold OK_wouldBreak f_X7_wouldBreak t_X7_wouldBreak f_X8_wouldBreak f_X7_tryPressure
  have I0 : Inv P G (si M 0 0 0) := I
  have t0 : (si M 0 0 0).1 0 0 = 0 := si_at
  simp only [lt, isPress_eq]
  generalize si M 0 0 0 = M0 at I0 t0 ⊢
  have g := I0.1
  have h := g.1
  have r := g.2.2.2.2.1
  have hcn := cnt_le h
  have e2 : (2 : Int32).toNatClampNeg = 2 := rfl
  rcases point_cases (G := G) h r.1 a1 with ⟨p, p1, p2, p3, p4, p5, p6⟩ | ⟨p4, p5, p6⟩
  · rcases within_cases a2 0 99999 (lo6 := 0) (hi6 := 99999) rfl rfl with ⟨q1, q2, q4, q5, q6⟩ | ⟨q4, q5, q6⟩
    · left
      subst p3
      obtain ⟨y, A, R1, R2, hy, k1, k2, k3, k4, k5, k6, k7, k8⟩ := try_cell (c := 1) (k := p) (i := 4 + p) (v := a2) I0 (by omega) (press_wf h p1 ⟨q1, q2⟩) (wfS_cell g.2.1 (by omega)) (fun R r => press_rel h r p1)
      have ai := aside_inv (R := R2) I0 k5
      have e : (4 : Int32) + nI p = nI (4 + p) := by rw [show (4 : Int32) = nI 4 from rfl, nI_add]
      obtain ⟨c, s0, s1, s2, s3, s4, s5, s6, s7⟩ := k8
      have hcy : cnt y.2.1 = cnt (M0.1 1) := by rw [st_cnt s3, cnt_up (by omega)]
      have ck : wloop (fun t : Int32 × Int32 => l_X7_wouldBreak_23 (va_up P 1 R2) t.1 t.2) 200 (0, 0) = some (bb (M0.1 1) y.2.1 (cnt (M0.1 1))) :=
        wl_count (f := fun t : Int32 × Int32 => l_X7_wouldBreak_23 (va_up P 1 R2) t.1 t.2) (fun i => (bb (M0.1 1) y.2.1 i, nI i)) (cnt (M0.1 1)) (bb (M0.1 1) y.2.1 (cnt (M0.1 1))) (fun i hi => by
          show l_X7_wouldBreak_23 (va_up P 1 R2) (bb (M0.1 1) y.2.1 i) (nI i) = _
          unfold l_X7_wouldBreak_23 b_X7_wouldBreak_72
          have x0 : va_up P 1 R2 0 = P 0 := va_up_ne _ _ (by decide)
          have x1 : va_up P 1 R2 1 = R2 := va_up_self _ _ _
          rw [x0, x1, r.2.2.1, n2 h, if_neg (by rw [nI_leI (by omega) (by omega)]; omega), c_tubeAt (show i < 12 by omega), c_tubeAt (show i < 12 by omega)]
          simp only [lt, c_tg g hi (show 6 < 7 by decide), c_tg k3 (show i < cnt y.2.1 by omega) (show 6 < 7 by decide), nI_1, bb]
          split
          · split <;> rfl
          · rfl) (by
          show l_X7_wouldBreak_23 (va_up P 1 R2) _ (nI (cnt (M0.1 1))) = _
          unfold l_X7_wouldBreak_23
          rw [va_up_ne _ _ (show 0 ≠ 1 by decide), r.2.2.1, n2 h, if_pos (by rw [nI_leI (by omega) (by omega)]; omega)]) 200 (by omega)
      have mk_ : wloop (fun t : Int32 × Int32 => l_X8_brokenAside_4 (mk A y.2.1 y.2.2) t.1 t.2) 200 (0, 0) = some (bb (M0.1 1) y.2.1 (cnt (M0.1 1))) :=
        wl_count (f := fun t : Int32 × Int32 => l_X8_brokenAside_4 (mk A y.2.1 y.2.2) t.1 t.2) (fun i => (bb (M0.1 1) y.2.1 i, nI i)) (cnt (M0.1 1)) (bb (M0.1 1) y.2.1 (cnt (M0.1 1))) (fun i hi => by
          show l_X8_brokenAside_4 (mk A y.2.1 y.2.2) (bb (M0.1 1) y.2.1 i) (nI i) = _
          have c6 : f_X8_cell (nI i) 6 = nI (18 + 7 * i + 6) := m_cell i 6
          have a3 : (mk A y.2.1 y.2.2).1 3 (18 + 7 * i + 6) = tg (M0.1 1) i 6 := by rw [mk_1n (by decide)]; exact k5.2.2.1 _ (by omega)
          unfold l_X8_brokenAside_4 b_X8_brokenAside_37 b_X8_brokenAside_44
          rw [if_pos (by decide), e2, mk_1, n2 s4, hcy, if_neg (by rw [nI_leI (by omega) (by omega)]; omega), m_whole (by omega), mk_1, c6]
          simp only [lt, nI_1, bb, if_pos (show 0 ≤ (nI (18 + 7 * i + 6)).toInt ∧ (nI (18 + 7 * i + 6)).toInt < 102 by rw [nI_toInt (by omega)]; omega), nI_clamp (show 18 + 7 * i + 6 < 2 ^ 31 by omega), a3]
          by_cases h6 : tg y.2.1 i 6 = 0
          · rw [if_pos h6, ob_some, tt_t, Int32.or_zero]
            simp only [if_pos h6]
            split <;> rfl
          · rw [if_neg h6, ob_some, ff_t, Int32.or_zero]
            simp only [if_neg h6]
            split <;> rfl) (by
          show l_X8_brokenAside_4 (mk A y.2.1 y.2.2) _ (nI (cnt (M0.1 1))) = _
          unfold l_X8_brokenAside_4
          rw [if_pos (by decide), e2, mk_1, n2 s4, hcy, if_pos (by rw [nI_leI (by omega) (by omega)]; omega)]) 200 (by omega)
      simp only [p4, p6, q4, q6, ob_some, b2i_t, fails_t t0, ff_t, e]
      refine ⟨200, bb (M0.1 1) y.2.1 (cnt (M0.1 1)), va_up P 1 R2, 200, bb (M0.1 1) y.2.1 (cnt (M0.1 1)), mk A (M0.1 1) (M0.2 5), ?_, ?_, ai.2.trans t0, rfl, ai.1⟩
      · rw [k1, ob_some]
        simp only [va_up_self, up_up, c_presses p1, k2, ob_some]
        rw [ck]
        rfl
      · have hb : f_X8_brokenAside 200 (mk A y.2.1 y.2.2) = some (bb (M0.1 1) y.2.1 (cnt (M0.1 1))) := by
          unfold f_X8_brokenAside
          rw [mk_]
          rfl
        rw [k4, ob_some, if_pos (by rw [nI_toInt (by omega)]; omega), nI_clamp (by omega), k6, ob_some, hb, ob_some, k7, ob_some]
    · right; right
      simp only [p4, p5, p6, q5, q6, ob_some, b2i_t, b2i_f, fails_t t0, fails_f t0 n2_0, ff_t, tt_t, if_true, if_false, zz_t, z2_t, true_and]
      exact ⟨100, _, _, rfl, thr0 2, I0⟩
  · right; left
    simp only [p5, p6, ob_some, b2i_f, fails_f t0 n1_0, tt_t, if_true, if_false, z1_t, true_and]
    exact ⟨100, _, _, rfl, thr0 1, I0⟩
end ASIDE
