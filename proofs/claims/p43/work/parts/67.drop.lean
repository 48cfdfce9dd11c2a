/-! OPERATIONS 6: dropTube -/
def dqN (N : Nat → Int32) (t c i : Nat) : Nat → Int32 := fun k => if 18 + 7 * t ≤ k ∧ k < i then N (k + 7) else if k = 2 then nI (c - 1) else N k
theorem dq_s {N : Nat → Int32} {t c i : Nat} (hi : 18 + 7 * t ≤ i) : va_up (dqN N t c i) i (N (i + 7)) = dqN N t c (i + 1) := by
  funext k
  unfold va_up dqN
  by_cases q : k = i
  · subst q; rw [if_pos rfl, if_pos (by omega)]
  · rw [if_neg q]
    by_cases q2 : 18 + 7 * t ≤ k ∧ k < i
    · rw [if_pos q2, if_pos (by omega)]
    · rw [if_neg q2, if_neg (show ¬ (18 + 7 * t ≤ k ∧ k < i + 1) by omega)]
section DROPN
variable {N : Nat → Int32} {S : Nat → Int64} {t : Nat}
theorem dq_lo {c i k : Nat} (h : k < 18 + 7 * t) (h2 : k ≠ 2) : dqN N t c i k = N k := by
  unfold dqN
  rw [if_neg (by omega), if_neg h2]
theorem dq_2 {c i : Nat} : dqN N t c i 2 = nI (c - 1) := by
  unfold dqN
  rw [if_neg (by omega), if_pos rfl]
theorem dq_cnt {c i : Nat} (hc : c ≤ 12) : cnt (dqN N t c i) = c - 1 := by
  unfold cnt
  rw [dq_2, nI_clamp (by omega)]
theorem dq_tg {c u k : Nat} (hu : u < c - 1) (hk : k < 7) : tg (dqN N t c (18 + 7 * (c - 1))) u k = if u < t then tg N u k else tg N (u + 1) k := by
  unfold tg dqN
  by_cases q : u < t
  · rw [if_pos q, if_neg (by omega), if_neg (by omega)]
  · rw [if_neg q, if_pos (by omega), show 18 + 7 * u + k + 7 = 18 + 7 * (u + 1) + k by omega]
theorem dq_wf (h : wfN N) (ht : t < cnt N) : wfN (dqN N t (cnt N) (18 + 7 * (cnt N - 1))) := by
  have hc := cnt_le h
  obtain ⟨h1, h2, h3, h4, h5, h6⟩ := h
  refine ⟨by rw [dq_lo (by omega) (by omega)]; exact h1, by rw [dq_lo (by omega) (by omega)]; exact h2, ?_, fun p hp => by rw [dq_lo (by omega) (by omega)]; exact h4 p hp, fun j hj => ?_, fun u hu => ?_⟩
  · rw [dq_2]
    unfold bd
    rw [nI_toInt (by omega)]
    omega
  · have e : ∀ k, k < 3 → lg (dqN N t (cnt N) (18 + 7 * (cnt N - 1))) j k = lg N j k := fun k hk => dq_lo (by omega) (by omega)
    rw [e 0 (by decide), e 1 (by decide), e 2 (by decide)]
    exact h5 j hj
  · rw [dq_cnt hc] at hu
    rw [dq_tg hu (by decide), dq_tg hu (by decide), dq_tg hu (by decide), dq_tg hu (by decide), dq_tg hu (by decide), dq_tg hu (by decide), dq_tg hu (by decide), dq_lo (k := 0) (by omega) (by omega)]
    by_cases q : u < t
    · simp only [if_pos q]; exact h6 u (by omega)
    · simp only [if_neg q]; exact h6 (u + 1) (by omega)
theorem dq_wfS (hS : wfS N S) {c i : Nat} : wfS (dqN N t c i) S := by
  intro j hj
  have e0 : lg (dqN N t c i) j 0 = lg N j 0 := dq_lo (by omega) (by omega)
  have e1 : lg (dqN N t c i) j 1 = lg N j 1 := dq_lo (by omega) (by omega)
  unfold lowL
  rw [e0, e1]
  exact hS j hj
end DROPN
theorem c_remove {R : RowS} {N : Nat → Int32} {S : Nat → Int64} (h : wfN N) (r : Rel R N S) {t : Nat} (ht : t < cnt N) : ∃ R', f_X3_remove 200 R (nI t) = some R' ∧ Rel R' (dqN N t (cnt N) (18 + 7 * (cnt N - 1))) S := by
  have hc := cnt_le h
  obtain ⟨R1, a1, a2, a3, a4⟩ := wl_rel (f := fun s : Int32 × RowS => l_X3_remove_2 s.1 s.2) (fun i s => s.1 = nI i ∧ t ≤ i ∧ s.2.2 = R.2 ∧ (∀ q, (q < t + 5 ∨ i + 5 ≤ q) → s.2.1 q = R.1 q) ∧ ∀ u, t ≤ u → u < i → ∀ k, k < 10 → s.2.1 (u + 5) k = R.1 (u + 1 + 5) k) (fun p => p.2 = R.2 ∧ (∀ q, (q < t + 5 ∨ cnt N - 1 + 5 ≤ q) → p.1 q = R.1 q) ∧ ∀ u, t ≤ u → u < cnt N - 1 → ∀ k, k < 10 → p.1 (u + 5) k = R.1 (u + 1 + 5) k) (cnt N - 1) (fun i s hi hs => by
    obtain ⟨z, R1⟩ := s
    obtain ⟨g1, hti, g2, g3, g4⟩ := hs
    simp only at g1 g2 g3 g4
    subst g1
    · refine ⟨(nI (i + 1), stT R1 (i + 5) (f_X6_copyFrom (R1.1 (i + 5)) (R1.1 (i + 1 + 5)))), ?_, rfl, by omega, g2, fun q hq => ?_, fun u u1 u2 k hk => ?_⟩
      · show l_X3_remove_2 (nI i) R1 = _
        unfold l_X3_remove_2
        have e2 : R1.1 0 2 = nI (cnt N - 1 + 1) := by rw [g3 0 (by omega), r.2.2.1, n2 h]; congr 1; omega
        rw [e2, nI_pred, if_neg (by rw [nI_leI (by omega) (by omega)]; omega), nI_1, c_tubeAt (show i < 12 by omega), c_tubeAt (show i + 1 < 12 by omega)]
        simp only [lt]
        rw [if_pos (by omega)]
      · show (stT R1 (i + 5) _).1 q = _
        rw [stT_1n (by omega)]
        exact g3 q (by omega)
      · show (stT R1 (i + 5) (f_X6_copyFrom (R1.1 (i + 5)) (R1.1 (i + 1 + 5)))).1 (u + 5) k = _
        by_cases q : u = i
        · subst q
          rw [stT_1, tube_copy k hk, g3 (u + 1 + 5) (by omega)]
        · rw [stT_1n (by omega)]
          exact g4 u u1 (by omega) k hk) (fun s hs => by
    obtain ⟨z, R1⟩ := s
    obtain ⟨g1, hti, g2, g3, g4⟩ := hs
    simp only at g1 g2 g3 g4
    subst g1
    refine ⟨R1, ?_, g2, g3, g4⟩
    show l_X3_remove_2 (nI (cnt N - 1)) R1 = _
    unfold l_X3_remove_2
    have e2 : R1.1 0 2 = nI (cnt N - 1 + 1) := by rw [g3 0 (by omega), r.2.2.1, n2 h]; congr 1; omega
    rw [e2, nI_pred, if_pos (by rw [nI_leI (by omega) (by omega)]; omega)]) (cnt N - 1 - t) t 200 (nI t, R) (by omega) (by omega) ⟨rfl, Nat.le_refl _, rfl, fun _ _ => rfl, fun u u1 u2 => by omega⟩
  have e2 : R1.1 0 2 = nI (cnt N - 1 + 1) := by rw [a3 0 (by omega), r.2.2.1, n2 h]; congr 1; omega
  refine ⟨si R1 0 2 (nI (cnt N - 1)), ?_, ?_⟩
  · unfold f_X3_remove
    rw [a1, ob_some]
    unfold b_X3_remove_33
    rw [e2, nI_pred]
    rfl
  · obtain ⟨r1, r2, r3, r4, r5, r6⟩ := r
    refine ⟨?_, ?_, ?_, fun p hp => ?_, fun j hj => ?_, fun u hu k hk => ?_⟩
    · rw [si_ne (Or.inr (by decide)), a3 0 (by omega), dq_lo (by omega) (by omega)]; exact r1
    · rw [si_ne (Or.inr (by decide)), a3 0 (by omega), dq_lo (by omega) (by omega)]; exact r2
    · rw [si_at, dq_2]
    · rw [si_ne (Or.inl (by decide)), a3 1 (by omega), dq_lo (by omega) (by omega)]; exact r4 p hp
    · have e : ∀ k, k < 3 → lg (dqN N t (cnt N) (18 + 7 * (cnt N - 1))) j k = lg N j k := fun k hk => dq_lo (by omega) (by omega)
      rw [e 0 (by decide), e 1 (by decide), e 2 (by decide), si_2, a2, si_ne (Or.inl (by omega)), si_ne (Or.inl (by omega)), si_ne (Or.inl (by omega)), a3 (j + 2) (by omega)]
      exact r5 j hj
    · rw [dq_cnt hc] at hu
      rw [si_ne (Or.inl (by omega)), dq_tg hu hk]
      by_cases q : u < t
      · rw [if_pos q, a3 (u + 5) (by omega)]
        exact r6 u (by omega) k hk
      · rw [if_neg q, a4 u (by omega) hu k (by omega)]
        exact r6 (u + 1) (by omega) k hk

