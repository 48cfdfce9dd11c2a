/-! QUERY 16: query -/
section QUERY
variable {P : RowsS} {G : GlbS} {M : RowS}
theorem reads_x {e : Nat} {G : GlbS} {M : RowS} (h : TX e G M) : ∃ M', f_X8_reads 1000 M = some M' ∧ TX e G M' ∧ MQf M M' := by
  obtain ⟨M3, hM3⟩ : ∃ M3, M3 = si (si (si M 0 26 0) 0 28 0) 0 27 0 := ⟨_, rfl⟩
  have h3 : TX e G M3 := by
    rw [hM3]
    exact tx_si (tx_si (tx_si h (Or.inr (Or.inr ⟨rfl, Or.inl rfl⟩))) (Or.inr (Or.inr ⟨rfl, Or.inr (Or.inr rfl)⟩))) (Or.inr (Or.inr ⟨rfl, Or.inr (Or.inl rfl)⟩))
  have m3 : MQf M M3 := by
    rw [hM3]
    exact mq_t (mq_t (mq_si (Or.inr (Or.inr ⟨rfl, Or.inl rfl⟩))) (mq_si (Or.inr (Or.inr ⟨rfl, Or.inr (Or.inr rfl)⟩)))) (mq_si (Or.inr (Or.inr ⟨rfl, Or.inr (Or.inl rfl)⟩)))
  refine ⟨M3, ?_, h3, m3⟩
  have hw : wloop (fun t : Int32 × RowS => l_X8_reads_20 1000 t.1 t.2) 1000 (b2i false, M3) = some (.inl M3) := by
    refine wl_en (n := 999) (f := fun t : Int32 × RowS => l_X8_reads_20 1000 t.1 t.2) (s := (b2i false, M3)) ?_
    show l_X8_reads_20 1000 (b2i false) M3 = _
    unfold l_X8_reads_20
    rw [if_pos (by decide)]
  unfold f_X8_reads
  rw [lt_eq, lt_eq, lt_eq, ← hM3, good_f (tx_19 h3), lt_eq, hw, ob_some]
  show b_X8_reads_124 1000 M3 = some M3
  unfold b_X8_reads_124 b_X8_reads_151
  rw [good_f (tx_19 h3), lt_eq, if_neg (by decide), sets_x (tx_19 h3)]
  rfl
/-- the end of a query, on both sides -/
theorem q_end {e : Nat} {R : RowS} {N : Nat → Int32} {S : Nat → Int64} (he : e ≤ 200) (hN : wfN N) (hS : wfS N S) (g : Settled R N S) {bm isF : Bool} {M : RowS} (h1 : M.1 1 = N) (h5 : M.2 5 = S) (hq : (∃ s2 p2, TS e s2 p2 G M ∧ 3 ≤ s2 ∧ isF = !bm) ∨ TX e G M) : ∃ held G3 v M4, f_X2_test 1000 (f_X2_factor 1000 7) R G 0 = some (held, G3) ∧ b_X8_query_65 1000 isF M = some (v, M4) ∧ GF G (f_X5_takeEnd G3) ∧ (f_X5_takeEnd G3) 3 8 = M4.1 0 20 ∧ (∃ M3, MQf M M3 ∧ HFr M3 M4) ∧ (((f_X5_takeEnd G3) 3 7 = 0 ∧ (bm = true → f_J6_bitCount_0f7a4 held = v) ∧ (bm = false → f_X7_lowestBit 1000 held = some v)) ∨ (¬ (f_X5_takeEnd G3) 3 7 = 0 ∧ (-1000000000) - (f_X5_takeEnd G3) 3 7 = v)) := by
  have hcn := cnt_le hN
  have r2 : R.1 0 2 = nI (cnt N) := by rw [g.1.2.2.1, n2 hN]
  rcases hq with ⟨s2, p2, t1, t2, t3⟩ | hx
  · obtain ⟨held, G3, q1, q2, q3⟩ := q_reads he hN g t1 t2
    rcases q3 with ⟨M3, u1, u2, u3, u4⟩ | ⟨M3, C, β, u1, u2, ⟨v1, v2, v3, v4⟩, u4, u5, u6, u7, u8⟩
    · refine ⟨held, G3, _, M3, q1, ?_, gf_t q2 u3, u2.2.2.2, ⟨M3, u4, ⟨fun _ _ => rfl, rfl⟩⟩, Or.inr ⟨u2.2.1, rfl⟩⟩
      unfold b_X8_query_65
      rw [u1, ob_some, lt_eq, good_f (tx_19 u2), lt_eq, if_neg (by decide), u2.2.2.1]
    · have n1 : M3.1 1 = N := by rw [u4.1 1 (by decide) (by decide) (by decide)]; exact h1
      have n5 : M3.2 5 = S := by rw [u4.2.1 5 (by decide)]; exact h5
      obtain ⟨M4, w1, w2⟩ := m_qloop (M := M3) (C := C) (β := β) isF (by rw [n1]; exact hN) (by rw [n1, n5]; exact hS) u5 u6 (by rw [n1, n5]; exact u8) (cnt (M3.1 1)) 0 1000 M3 (by omega) (by rw [n1]; omega) ⟨fun _ _ => rfl, rfl⟩
      rw [n1, Nat.zero_add] at w1
      refine ⟨held, G3, (if isF = true then lowN β (cnt N) 0 else nI (cntB β (cnt N))), M4, q1, ?_, by rw [u2]; exact q2, by rw [u2, v2, w2.1 0 (by decide), v4], ⟨M3, u4, w2⟩, Or.inl ⟨by rw [u2]; exact v1, fun hb => ?_, fun hb => ?_⟩⟩
      · unfold b_X8_query_65
        rw [u1, ob_some, lt_eq, good_t v3, lt_eq, if_pos rfl]
        exact w1
      · rw [t3, hb]
        exact c_count u7 hcn
      · rw [t3, hb]
        exact c_low u7 hcn
  · obtain ⟨s', p', hcp⟩ := hx.1
    obtain ⟨held, G3, q1, q2⟩ := cx_test hx.2.1 (cx_factor (R := R) hcn r2 7 0 G s' p' (by omega) (by omega) hcp hx.2.1)
    obtain ⟨M3, u1, u2, u3⟩ := reads_x hx
    obtain ⟨t1, t2⟩ := tend_x (tx_cx u2 q2)
    refine ⟨held, G3, _, M3, q1, ?_, gf_t q2.1 t2, t1.2.2.2, ⟨M3, u3, ⟨fun _ _ => rfl, rfl⟩⟩, Or.inr ⟨t1.2.1, rfl⟩⟩
    unfold b_X8_query_65
    rw [u1, ob_some, lt_eq, good_f (tx_19 u2), lt_eq, if_neg (by decide), t1.2.2.1]
end QUERY
