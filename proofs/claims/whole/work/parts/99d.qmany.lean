/-! QUERY 15: first or many -/
section QMANY
variable {e : Nat} {R : RowS}
def mqx (M : RowS) : Option (Int32 × RowS) :=
  ob (f_X8_passes 1000 M 3379448) fun x9 =>
  lt (x9.2) fun Mv10 =>
  lt (x9.1) fun x11 =>
  if x11 = true then
    b_X8_query_65 1000 x11 Mv10
  else
    ob (f_X8_passes 1000 Mv10 257011) fun x26 =>
    lt (x26.2) fun Mv27 =>
    if x26.1 = true then
      b_X8_query_65 1000 x11 Mv27
    else
      lt (f_X8_wrongs Mv27 1) fun x29 =>
      lt (x29.2) fun Mv30 =>
      b_X8_query_65 1000 x11 Mv30
theorem q_many {s p : Nat} {G : GlbS} {M : RowS} (h : TS e s p G M) : ∃ bm G2 isF M2, f_X2_wantsMany 1000 R G = some (bm, G2) ∧ mqx M = b_X8_query_65 1000 isF M2 ∧ GF G G2 ∧ MF M M2 ∧ ((∃ s2 p2, TS e s2 p2 G2 M2 ∧ 3 ≤ s2 ∧ isF = !bm) ∨ TX e G2 M2) := by
  have hg := ts_19 (m := 0) h
  have htt : TT e 0 G M := Or.inl ⟨s, p, Nat.zero_le s, h⟩
  obtain ⟨bm, x1, x2, _⟩ := t_word lw_many htt
  have x2 := x2 hg
  obtain ⟨bf, y1, y2, _⟩ := t_word lw_first htt
  have y2 := y2 hg
  obtain ⟨G1, M1, q, r, a1, a2, a3, a4, a5, a6⟩ := adv_ts h
  unfold f_X2_wantsMany mqx f_X8_passes
  rw [x1, ob_some, y2, lt_eq]
  cases bm with
  | true =>
    have l1 := ((m_word lw_many h).mp x2).2.1
    have hbf : bf = false := by
      cases bf with
      | false => rfl
      | true =>
        have l2 := ((m_word lw_first h).mp y2).2.1
        omega
    subst hbf
    refine ⟨true, G1, false, M1, ?_, ?_, a5, a6, Or.inl ⟨q, r, a4, by omega, rfl⟩⟩
    · rw [if_pos rfl, a1]
      rfl
    · rw [if_neg (by decide), ob_some, lt_eq, lt_eq, if_neg (c := ((false, M).fst = true)) Bool.false_ne_true, x2, lt_eq, if_pos rfl, a2]
      rfl
  | false =>
    unfold f_X5_takeWord
    cases bf with
    | true =>
      have l2 := ((m_word lw_first h).mp y2).2.1
      refine ⟨false, G1, true, M1, ?_, ?_, a5, a6, Or.inl ⟨q, r, a4, by omega, rfl⟩⟩
      · rw [if_neg (by decide), y1, ob_some, if_pos rfl, a1]
        rfl
      · rw [if_pos rfl, a2]
        rfl
    | false =>
      obtain ⟨M9, o1, o2, o3⟩ := t_failo htt (c := 1) (by decide) 0
      rcases o2.2.2.1 with ⟨s9, p9, _, ht⟩ | hx
      · exact absurd (ts_19 (m := 0) ht) o3
      · refine ⟨false, f_X5_fail G 1, false, M9, ?_, ?_, o2.1, o2.2.1, Or.inr hx⟩
        · rw [if_neg (by decide), y1, ob_some, if_neg (by decide)]
          rfl
        · rw [if_neg (by decide), ob_some, lt_eq, lt_eq, if_neg (c := ((false, M).fst = true)) Bool.false_ne_true, x2, lt_eq, if_neg (by decide), ob_some, lt_eq, if_neg (c := ((false, M).fst = true)) Bool.false_ne_true, o1]
          rfl
end QMANY
