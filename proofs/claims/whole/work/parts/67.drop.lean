/-! OPERATIONS 6: dropTube -/
def dqN (N : Nat → Int32) (t c i : Nat) : Nat → Int32 := fun k => if 18 + 7 * t ≤ k ∧ k < i then N (k + 7) else if k = 2 then nI (c - 1) else N k
theorem dq_s {N : Nat → Int32} {t c i : Nat} (hi : 18 + 7 * t ≤ i) : va_up (dqN N t c i) i (N (i + 7)) = dqN N t c (i + 1) := by
  funext k
  unfold va_up dqN
  by_cases q : k = i
  · subst q; rw [if_pos rfl, if_pos (by omega)]
  · rw [if_neg q]
    by_cases q2 : 18 + 7 * t ≤ k ∧ k < i
    · rw [if_pos q2, if_pos (by omega)]
    · rw [if_neg q2, if_neg (show ¬ (18 + 7 * t ≤ k ∧ k < i + 1) by omega)]
section DROPN
variable {N : Nat → Int32} {S : Nat → Int64} {t : Nat}
theorem dq_lo {c i k : Nat} (h : k < 18 + 7 * t) (h2 : k ≠ 2) : dqN N t c i k = N k := by
  unfold dqN
  rw [if_neg (by omega), if_neg h2]
theorem dq_2 {c i : Nat} : dqN N t c i 2 = nI (c - 1) := by
  unfold dqN
  rw [if_neg (by omega), if_pos rfl]
theorem dq_cnt {c i : Nat} (hc : c ≤ 12) : cnt (dqN N t c i) = c - 1 := by
  unfold cnt
  rw [dq_2, nI_clamp (by omega)]
theorem dq_tg {c u k : Nat} (hu : u < c - 1) (hk : k < 7) : tg (dqN N t c (18 + 7 * (c - 1))) u k = if u < t then tg N u k else tg N (u + 1) k := by
  unfold tg dqN
  by_cases q : u < t
  · rw [if_pos q, if_neg (by omega), if_neg (by omega)]
  · rw [if_neg q, if_pos (by omega), show 18 + 7 * u + k + 7 = 18 + 7 * (u + 1) + k by omega]
theorem dq_wf (h : wfN N) (ht : t < cnt N) : wfN (dqN N t (cnt N) (18 + 7 * (cnt N - 1))) := by
  have hc := cnt_le h
  obtain ⟨h1, h2, h3, h4, h5, h6⟩ := h
  refine ⟨by rw [dq_lo (by omega) (by omega)]; exact h1, by rw [dq_lo (by omega) (by omega)]; exact h2, ?_, fun p hp => by rw [dq_lo (by omega) (by omega)]; exact h4 p hp, fun j hj => ?_, fun u hu => ?_⟩
  · rw [dq_2]
    unfold bd
    rw [nI_toInt (by omega)]
    omega
  · have e : ∀ k, k < 3 → lg (dqN N t (cnt N) (18 + 7 * (cnt N - 1))) j k = lg N j k := fun k hk => dq_lo (by omega) (by omega)
    rw [e 0 (by decide), e 1 (by decide), e 2 (by decide)]
    exact h5 j hj
  · rw [dq_cnt hc] at hu
    rw [dq_tg hu (by decide), dq_tg hu (by decide), dq_tg hu (by decide), dq_tg hu (by decide), dq_tg hu (by decide), dq_tg hu (by decide), dq_tg hu (by decide), dq_lo (k := 0) (by omega) (by omega)]
    by_cases q : u < t
    · simp only [if_pos q]; exact h6 u (by omega)
    · simp only [if_neg q]; exact h6 (u + 1) (by omega)
theorem dq_wfS (hS : wfS N S) {c i : Nat} : wfS (dqN N t c i) S := by
  intro j hj
  have e0 : lg (dqN N t c i) j 0 = lg N j 0 := dq_lo (by omega) (by omega)
  have e1 : lg (dqN N t c i) j 1 = lg N j 1 := dq_lo (by omega) (by omega)
  unfold lowL
  rw [e0, e1]
  exact hS j hj
theorem dq_zb (z : ZB N S) {c i : Nat} (hi : i ≤ 102) : ZB (dqN N t c i) S := ⟨fun k hk => by
  unfold dqN
  rw [if_neg (by omega), if_neg (by omega)]
  exact z.1 k hk, z.2⟩
end DROPN
theorem c_remove {R : RowS} {N : Nat → Int32} {S : Nat → Int64} (h : wfN N) (r : Rel R N S) {t : Nat} (ht : t < cnt N) : ∃ R', f_X3_remove 200 R (nI t) = some R' ∧ Rel R' (dqN N t (cnt N) (18 + 7 * (cnt N - 1))) S := by
  have hc := cnt_le h
  obtain ⟨R1, a1, a2, a3, a4⟩ := wl_rel (f := fun s : Int32 × RowS => l_X3_remove_2 s.1 s.2) (fun i s => s.1 = nI i ∧ t ≤ i ∧ s.2.2 = R.2 ∧ (∀ q, (q < t + 5 ∨ i + 5 ≤ q) → s.2.1 q = R.1 q) ∧ ∀ u, t ≤ u → u < i → ∀ k, k < 10 → s.2.1 (u + 5) k = R.1 (u + 1 + 5) k) (fun p => p.2 = R.2 ∧ (∀ q, (q < t + 5 ∨ cnt N - 1 + 5 ≤ q) → p.1 q = R.1 q) ∧ ∀ u, t ≤ u → u < cnt N - 1 → ∀ k, k < 10 → p.1 (u + 5) k = R.1 (u + 1 + 5) k) (cnt N - 1) (fun i s hi hs => by
    obtain ⟨z, R1⟩ := s
    obtain ⟨g1, hti, g2, g3, g4⟩ := hs
    simp only at g1 g2 g3 g4
    subst g1
    · refine ⟨(nI (i + 1), stT R1 (i + 5) (f_X6_copyFrom (R1.1 (i + 5)) (R1.1 (i + 1 + 5)))), ?_, rfl, by omega, g2, fun q hq => ?_, fun u u1 u2 k hk => ?_⟩
      · show l_X3_remove_2 (nI i) R1 = _
        unfold l_X3_remove_2
        have e2 : R1.1 0 2 = nI (cnt N - 1 + 1) := by rw [g3 0 (by omega), r.2.2.1, n2 h]; congr 1; omega
        rw [e2, nI_pred, if_neg (by rw [nI_leI (by omega) (by omega)]; omega), nI_1, c_tubeAt (show i < 12 by omega), c_tubeAt (show i + 1 < 12 by omega)]
        simp only [lt]
        rw [if_pos (by omega)]
      · show (stT R1 (i + 5) _).1 q = _
        rw [stT_1n (by omega)]
        exact g3 q (by omega)
      · show (stT R1 (i + 5) (f_X6_copyFrom (R1.1 (i + 5)) (R1.1 (i + 1 + 5)))).1 (u + 5) k = _
        by_cases q : u = i
        · subst q
          rw [stT_1, tube_copy k hk, g3 (u + 1 + 5) (by omega)]
        · rw [stT_1n (by omega)]
          exact g4 u u1 (by omega) k hk) (fun s hs => by
    obtain ⟨z, R1⟩ := s
    obtain ⟨g1, hti, g2, g3, g4⟩ := hs
    simp only at g1 g2 g3 g4
    subst g1
    refine ⟨R1, ?_, g2, g3, g4⟩
    show l_X3_remove_2 (nI (cnt N - 1)) R1 = _
    unfold l_X3_remove_2
    have e2 : R1.1 0 2 = nI (cnt N - 1 + 1) := by rw [g3 0 (by omega), r.2.2.1, n2 h]; congr 1; omega
    rw [e2, nI_pred, if_pos (by rw [nI_leI (by omega) (by omega)]; omega)]) (cnt N - 1 - t) t 200 (nI t, R) (by omega) (by omega) ⟨rfl, Nat.le_refl _, rfl, fun _ _ => rfl, fun u u1 u2 => by omega⟩
  have e2 : R1.1 0 2 = nI (cnt N - 1 + 1) := by rw [a3 0 (by omega), r.2.2.1, n2 h]; congr 1; omega
  refine ⟨si R1 0 2 (nI (cnt N - 1)), ?_, ?_⟩
  · unfold f_X3_remove
    rw [a1, ob_some]
    unfold b_X3_remove_33
    rw [e2, nI_pred]
    rfl
  · obtain ⟨r1, r2, r3, r4, r5, r6⟩ := r
    refine ⟨?_, ?_, ?_, fun p hp => ?_, fun j hj => ?_, fun u hu k hk => ?_⟩
    · rw [si_ne (Or.inr (by decide)), a3 0 (by omega), dq_lo (by omega) (by omega)]; exact r1
    · rw [si_ne (Or.inr (by decide)), a3 0 (by omega), dq_lo (by omega) (by omega)]; exact r2
    · rw [si_at, dq_2]
    · rw [si_ne (Or.inl (by decide)), a3 1 (by omega), dq_lo (by omega) (by omega)]; exact r4 p hp
    · have e : ∀ k, k < 3 → lg (dqN N t (cnt N) (18 + 7 * (cnt N - 1))) j k = lg N j k := fun k hk => dq_lo (by omega) (by omega)
      rw [e 0 (by decide), e 1 (by decide), e 2 (by decide), si_2, a2, si_ne (Or.inl (by omega)), si_ne (Or.inl (by omega)), si_ne (Or.inl (by omega)), a3 (j + 2) (by omega)]
      exact r5 j hj
    · rw [dq_cnt hc] at hu
      rw [si_ne (Or.inl (by omega)), dq_tg hu hk]
      by_cases q : u < t
      · rw [if_pos q, a3 (u + 5) (by omega)]
        exact r6 u (by omega) k hk
      · rw [if_neg q, a4 u (by omega) hu k (by omega)]
        exact r6 (u + 1) (by omega) k hk
section DROP
variable {P : RowsS} {G : GlbS} {M : RowS}
theorem m_drop {N : Nat → Int32} {S : Nat → Int64} (h : wfN N) {t : Nat} (ht : t < cnt N) : wloop (fun s : Int32 × RowS => l_X8_dropTube_40 s.1 s.2) 200 (nI (18 + 7 * t + 0), mk M (va_up N 2 (nI (cnt N - 1))) S) = some (mk M (dqN N t (cnt N) (18 + 7 * (cnt N - 1))) S) := by
  have hc := cnt_le h
  have e2 : (2 : Int32).toNatClampNeg = 2 := rfl
  have e0 : va_up N 2 (nI (cnt N - 1)) = dqN N t (cnt N) (18 + 7 * t) := by
    funext k
    unfold va_up dqN
    rw [if_neg (show ¬ (18 + 7 * t ≤ k ∧ k < 18 + 7 * t) by omega)]
  rw [e0]
  have key := wl_rel (f := fun s : Int32 × RowS => l_X8_dropTube_40 s.1 s.2) (fun i s => 18 + 7 * t ≤ i ∧ s = (nI i, mk M (dqN N t (cnt N) i) S)) (fun p => p = mk M (dqN N t (cnt N) (18 + 7 * (cnt N - 1))) S) (18 + 7 * (cnt N - 1)) (fun i s hi hs => by
    obtain ⟨hti, rfl⟩ := hs
    refine ⟨(nI (i + 1), mk M (dqN N t (cnt N) (i + 1)) S), ?_, by omega, rfl⟩
    show l_X8_dropTube_40 (nI i) (mk M (dqN N t (cnt N) i) S) = _
    have c0 : f_X8_cell (nI (cnt N - 1)) 0 = nI (18 + 7 * (cnt N - 1) + 0) := m_cell (cnt N - 1) 0
    have e7 : nI i + 7 = nI (i + 7) := by rw [show (7 : Int32) = nI 7 from rfl, nI_add]
    unfold l_X8_dropTube_40
    rw [if_pos (by decide), e2, mk_1, dq_2, c0, lt_eq, if_neg (by rw [nI_leI (by omega) (by omega)]; omega), e7, if_pos (by rw [nI_toInt (by omega)]; omega), if_pos (by rw [nI_toInt (by omega)]; omega), nI_clamp (by omega), nI_clamp (by omega), nI_1]
    have ev : dqN N t (cnt N) i (i + 7) = N (i + 7) := by
      unfold dqN
      rw [if_neg (by omega), if_neg (by omega)]
    simp only [lt, mk_si, ev, dq_s hti]) (fun s hs => by
    obtain ⟨hti, rfl⟩ := hs
    refine ⟨_, ?_, rfl⟩
    show l_X8_dropTube_40 (nI (18 + 7 * (cnt N - 1))) (mk M (dqN N t (cnt N) (18 + 7 * (cnt N - 1))) S) = _
    have c0 : f_X8_cell (nI (cnt N - 1)) 0 = nI (18 + 7 * (cnt N - 1) + 0) := m_cell (cnt N - 1) 0
    unfold l_X8_dropTube_40
    rw [if_pos (by decide), e2, mk_1, dq_2, c0, lt_eq, if_pos (by rw [nI_leI (by omega) (by omega)]; omega)]) (18 + 7 * (cnt N - 1) - (18 + 7 * t)) (18 + 7 * t) 200 (nI (18 + 7 * t), mk M (dqN N t (cnt N) (18 + 7 * t)) S) (by omega) (by omega) ⟨by omega, rfl⟩
  obtain ⟨p, k1, k2⟩ := key
  rw [k2] at k1
  exact k1
theorem ok_dropTube (I : Inv P G M) (a1 : Int32) : OK_dropTube Inv P G M a1 := by
  unfold OK_dropTube f_X7_dropTube t_X7_dropTube f_X8_dropTube b_X8_dropTube_75
  have I0 : Inv P G (si M 0 0 0) := I
  have t0 : (si M 0 0 0).1 0 0 = 0 := si_at
  simp only [lt]
  generalize si M 0 0 0 = M0 at I0 t0 ⊢
  have g := I0.1
  have h := g.1
  have hcn := cnt_le h
  have e2 : (2 : Int32).toNatClampNeg = 2 := rfl
  rcases tube_cases (G := G) g.1 g.2.2.2.2.1.2.2.1 a1 with ⟨t, p1, p2, p3, p4, p5, p6⟩ | ⟨p4, p5, p6⟩
  · left
    subst p3
    simp only [p4, p6, ob_some, b2i_t, fails_t t0, ff_t]
    obtain ⟨P1, G1, M1, k1, k2, k3, k4, k5, k6⟩ := keep_ok I0
    have e1 : M1.1 1 = M0.1 1 := k5.1 1 (by decide) (by decide)
    have e5 : M1.2 5 = M0.2 5 := k5.2.1 5 (by decide)
    have e0 : P1 0 = P 0 := k3 0 (by decide)
    obtain ⟨R', r1, r2⟩ := c_remove h g.2.2.2.2.1 p1
    have w := dq_wf h p1
    have ws := dq_wfS (t := t) g.2.1 (c := cnt (M0.1 1)) (i := 18 + 7 * (cnt (M0.1 1) - 1))
    obtain ⟨R2, f1, f2, f3, f4⟩ := finish (P := P1) (G := G1) (M := M1) (rest_keep I0 k3 k4 k5 k6) w ws (dq_zb g.2.2.1 (by omega)) r2
    obtain ⟨c, s1, s2, s3, s4, s5, s6, s7, s8⟩ := settle_facts w ws
    have md := m_drop (M := M1) (S := M0.2 5) h p1
    generalize settleS (dqN (M0.1 1) t (cnt (M0.1 1)) (18 + 7 * (cnt (M0.1 1) - 1))) (M0.2 5) = y at f1 f2 f3 f4 s2 s3 s4 s5 s6 s7 s8
    have hcy : y.2.1 2 = nI (cnt (M0.1 1) - 1) := by
      rw [n2 s5, st_cnt s4, dq_cnt hcn]
    have c0 : f_X8_cell (nI t) 0 = nI (18 + 7 * t + 0) := m_cell t 0
    have em1 : nI (cnt (M0.1 1)) - 1 = nI (cnt (M0.1 1) - 1) := by
      rw [show cnt (M0.1 1) = (cnt (M0.1 1) - 1) + 1 by omega, nI_pred]
      rfl
    refine ⟨200, nI (cnt (M0.1 1) - 1), va_up P1 0 R2, G1, 200, nI (cnt (M0.1 1) - 1), mk M1 y.2.1 y.2.2, ?_, ?_, ?_, rfl, f3⟩
    · rw [k1, ob_some]
      simp only [e0, r1, ob_some, va_up_self, up_up, f1, f4.2.2.2.2.1.2.2.1, hcy]
    · rw [k2, ob_some, if_pos (by decide), if_pos (by decide), e2, e1, n2 h, em1, si_mk, e1, e5, c0, md, ob_some, f2, ob_some, if_pos (by decide)]
      simp only [mk_1, hcy]
    · show (mk M1 _ _).1 0 0 = 0
      rw [mk_1n (by decide), k5.2.2 0 (by decide)]
      exact t0
  · right
    simp only [p5, p6, ob_some, b2i_f, fails_f t0 n1_0, tt_t, if_true, if_false, z1_t, true_and]
    exact ⟨100, _, _, rfl, thr0 1, I0⟩
end DROP
