/-! QUERY 6: a comparison, on both sides -/
def Got (N : Nat → Int32) (S : Nat → Int64) (w c d a : Nat) (M M' : RowS) (held : Int32) : Prop :=
  MQf M M' ∧ St w (c + d) a M' ∧ (∀ i, i < w → M'.1 24 i = M.1 24 i) ∧ (∀ i, i < c → M'.1 23 i = M.1 23 i) ∧ ∃ β, HB held β (cnt N) ∧ ∀ k, k < cnt N → ∀ s, exN N S k (M'.1 23) c d s = b2i (β k) :: s
def QR (e s m : Nat) (G : GlbS) (M : RowS) (G' : GlbS) (o : Option RowS) (Q : RowS → Prop) : Prop := QX e G M G' o ∨ ∃ s' p' M', o = some M' ∧ GF G G' ∧ TS e s' p' G' M' ∧ s + m ≤ s' ∧ Q M'
theorem byte_x {M : RowS} (h : ¬ M.1 0 19 = 0) (a : Int32) : f_X8_isByte M a = some false := by
  unfold f_X8_isByte
  rw [good_f h, lt_eq, if_neg (by decide)]
theorem b99_x {M : RowS} (h : ¬ M.1 0 19 = 0) (y : Int32) : b_X8_comparisonRead_99 1000 y M = some M := by
  unfold b_X8_comparisonRead_99
  rw [good_f h, lt_eq, if_neg (by decide)]
theorem st_mf {w c a : Nat} {M M' : RowS} (h : St w c a M) (k : MF M M') : St w c a M' := by
  unfold St
  rw [k.2.2 27 (by decide) (by decide) (by decide) (by decide) (by decide) (by decide), k.2.2 26 (by decide) (by decide) (by decide) (by decide) (by decide) (by decide), k.2.2 28 (by decide) (by decide) (by decide) (by decide) (by decide) (by decide)]
  exact h
section QCMP2
variable {e : Nat} {G : GlbS} {M : RowS} {R : RowS} {N : Nat → Int32} {S : Nat → Int64}
theorem adv_ts {s p : Nat} (h : TS e s p G M) : ∃ G' M' q r, f_X5_advance 1000 G = some G' ∧ f_X8_next 1000 M = some M' ∧ p ≤ q ∧ TS e q r G' M' ∧ GF G G' ∧ MF M M' := adv_ok h.1 h.2.1 ⟨h.2.2.1.1, h.2.2.1.2.1⟩ h.2.2.2.1
theorem cmp_tail {s p c w a : Nat} {x4 x5 : Bool} {t1 : Int32} {u1 : Nat → Int32} (h : TS e s p G M) (hsp : s < p) (st : St w (c + 1) a M) (hc : c + 2 < 200) (hN : wfN N) (g : Settled R N S) (v1 : VC R N S t1 (M.1 23 c) u1) : ∃ held G', (ob (f_X5_advance 1000 G) fun x7 => b_X2_comparison_52 1000 R t1 x4 x5 x7) = some (held, G') ∧ QR e s 2 G M G' (b_X8_comparisonRead_99 1000 (opc x4 x5) M) (fun M' => Got N S w c 3 a M M' held) := by
  have hcn := cnt_le hN
  have r2 : R.1 0 2 = nI (cnt N) := by rw [g.1.2.2.1, n2 hN]
  have hg := ts_19 (m := 0) h
  obtain ⟨G1, M1, q, r, a1, a2, a3, a4, a5, a6⟩ := adv_ts h
  obtain ⟨t2, G2, b1, b2⟩ := t_value (R := R) a4 (st_mf st a6) (by omega) hN g
  obtain ⟨held, l1, l2⟩ := c_cmp (R := R) (G := G2) (x4 := x4) (x5 := x5) (t1 := t1) (t2 := t2) hcn r2 (v1.1 G2) (fun _ _ => rfl)
  unfold b_X2_comparison_52 b_X8_comparisonRead_99
  rw [a1, ob_some, b1, ob_some, lt_eq, lt_eq, l1, ob_some, good_t hg, lt_eq, if_pos rfl, a2, ob_some, lt_eq]
  refine ⟨held, G2, rfl, ?_⟩
  rcases b2 with ⟨x1, M2, x2, x3, x4'⟩ | ⟨s', p', M2, u2, y1, y2, y3, y4, y5, y6, y7, y8, y9⟩
  · rw [x2, ob_some, lt_eq, good_f (tx_19 x3), lt_eq, if_neg (by decide)]
    exact Or.inl ⟨gf_t a5 x1, M2, rfl, x3, mq_t (mf_q a6) x4'⟩
  · have hg2 := ts_19 (m := 0) y3
    rw [y1, ob_some, lt_eq, good_t hg2, lt_eq, if_pos rfl, m_adds y6.2.1 (by omega), ob_some, lt_eq]
    refine Or.inr ⟨s', p', _, rfl, gf_t a5 y2, ts_si (ts_si y3 (Or.inl rfl)) (Or.inr (Or.inr ⟨rfl, Or.inl rfl⟩)), by omega, ?_⟩
    have f23 : ∀ i, i ≠ c + 2 → (si (si M2 23 (c + 1 + 1) (opc x4 x5)) 0 26 (nI (c + 1 + 1 + 1))).1 23 i = M2.1 23 i := fun i hi => by rw [si_c (by decide), si_ne (Or.inr (by omega))]
    have f2c : (si (si M2 23 (c + 1 + 1) (opc x4 x5)) 0 26 (nI (c + 1 + 1 + 1))).1 23 (c + 2) = opc x4 x5 := by rw [si_c (by decide)]; exact si_at
    refine ⟨mq_t (mq_t (mf_q a6) y5) (mq_t (mq_si (Or.inl rfl)) (mq_si (Or.inr (Or.inr ⟨rfl, Or.inl rfl⟩)))), ⟨?_, ?_, ?_⟩, fun i hi => ?_, fun i hi => ?_, fun k => f_X8_joined (opc x4 x5) (u1 k) (u2 k), ?_, fun k hk s => ?_⟩
    · rw [si_ne (Or.inr (by decide)), si_ne (Or.inl (by decide))]; exact y6.1
    · exact si_at
    · rw [si_ne (Or.inr (by decide)), si_ne (Or.inl (by decide))]; exact y6.2.2
    · rw [si_c (by decide), si_c (by decide), y7, a6.1 24 (by decide)]
    · rw [f23 i (by omega), y8 i (by omega), a6.1 23 (by decide)]
    · obtain ⟨held', l1', l2'⟩ := c_cmp (R := R) (G := G2) (x4 := x4) (x5 := x5) (t1 := t1) (t2 := t2) hcn r2 (v1.1 G2) (y9.1 G2)
      rw [l1] at l1'
      cases Option.some.inj l1'
      exact l2'
    · show ex1 N S k ((si (si M2 23 (c + 1 + 1) (opc x4 x5)) 0 26 (nI (c + 1 + 1 + 1))).1 23 (c + 2)) (ex1 N S k ((si (si M2 23 (c + 1 + 1) (opc x4 x5)) 0 26 (nI (c + 1 + 1 + 1))).1 23 (c + 1)) (ex1 N S k ((si (si M2 23 (c + 1 + 1) (opc x4 x5)) 0 26 (nI (c + 1 + 1 + 1))).1 23 (c + 0)) s)) = _
      rw [f2c, f23 (c + 1) (by omega), f23 (c + 0) (by omega), y9.2 k hk, y8 (c + 0) (by omega), a6.1 23 (by decide), Nat.add_zero, v1.2 k hk]
      have ho : ∀ x y : Bool, ¬ opc x y = 23 ∧ f_X8_in (opc x y).toInt64 20 25 = true := by decide
      unfold ex1
      rw [if_neg (ho x4 x5).1, (ho x4 x5).2, if_pos rfl]
theorem t_cmp {s p c w a : Nat} (h : TS e s p G M) (st : St w c a M) (he : e ≤ 200) (hb : c + w + 3 ≤ s) (hN : wfN N) (g : Settled R N S) : ∃ held G', f_X2_comparison 1000 R G = some (held, G') ∧ QR e s 3 G M G' (b_X8_comparisonRead_43 1000 M) (fun M' => Got N S w c 3 a M M' held) := by
  have hcn := cnt_le hN
  have r2 : R.1 0 2 = nI (cnt N) := by rw [g.1.2.2.1, n2 hN]
  have hse : s ≤ e := by have := h.1.2.2.2; omega
  obtain ⟨t1, G1, b1, b2⟩ := t_value (R := R) h st (by omega) hN g
  unfold f_X2_comparison b_X8_comparisonRead_43
  rw [b1, ob_some, lt_eq, lt_eq, lt_eq, lt_eq]
  rcases b2 with ⟨x1, M1, x2, x3, x4⟩ | ⟨s1, p1, M1, u1, y1, y2, y3, y4, y5, y6, y7, y8, y9⟩
  · obtain ⟨s', p', hcp⟩ := x3.1
    obtain ⟨held, G', z1, z2⟩ := cx_cmp_rest (R := R) (t1 := t1) hcp x3.2.1 hcn r2
    have hx := tx_19 x3
    refine ⟨held, G', z1, Or.inl ⟨gf_t x1 z2.1, M1, ?_, tx_cx x3 z2, x4⟩⟩
    unfold b_X8_comparisonRead_77
    rw [x2, ob_some, lt_eq, byte_x hx, ob_some, if_neg (by decide), byte_x hx, ob_some, if_neg (by decide), if_pos rfl, byte_x hx, ob_some, if_neg (by decide), wr_x hx, lt_eq, lt_eq]
    exact b99_x hx 21
  · have htt : TT e 0 G1 M1 := Or.inl ⟨s1, p1, Nat.zero_le s1, y3⟩
    have hg1 := ts_19 (m := 0) y3
    have pre : ∀ {G' : GlbS} {o : Option RowS} {held : Int32}, QR e s1 2 G1 M1 G' o (fun M' => Got N S w c 3 a M1 M' held) → QR e s 3 G M G' o (fun M' => Got N S w c 3 a M M' held) := by
      intro G' o held hq
      rcases hq with ⟨q1, M', q2, q3, q4⟩ | ⟨s', p', M', q1, q2, q3, q4, q5, q6, q7, q8, q9⟩
      · exact Or.inl ⟨gf_t y2 q1, M', q2, q3, mq_t y5 q4⟩
      · exact Or.inr ⟨s', p', M', q1, gf_t y2 q2, q3, by omega, mq_t y5 q5, q6, fun i hi => by rw [q7 i hi, y7], fun i hi => by rw [q8 i hi, y8 i (by omega)], q9⟩
    obtain ⟨b60, i1, i2, i3, i4⟩ := t_sign (a := 60) (by unfold bd; decide) htt
    obtain ⟨b62, j1, j2, j3, j4⟩ := t_sign (a := 62) (by unfold bd; decide) htt
    have i2 := i2 hg1
    have j2 := j2 hg1
    rw [y1, ob_some, lt_eq, i1, ob_some, i2, j2]
    have lt3 : G1 3 5 = 3 → s1 < p1 := fun q => kd_lt y3 (by rw [q]; decide)
    unfold b_X2_comparison_33 b_X8_comparisonRead_77
    cases b60 with
    | true =>
      obtain ⟨held, G', z1, z2⟩ := cmp_tail (x4 := true) (x5 := b62) y3 (lt3 (i4 rfl)) y6 (by omega) hN g y9
      rw [if_pos rfl, if_pos rfl, if_neg (by decide)]
      exact ⟨held, G', z1, pre z2⟩
    | false =>
      rw [if_neg (c := (false = true)) (by decide), if_neg (c := (false = true)) (by decide), j1, ob_some]
      cases b62 with
      | true =>
        obtain ⟨held, G', z1, z2⟩ := cmp_tail (x4 := false) (x5 := true) y3 (lt3 (j4 rfl)) y6 (by omega) hN g y9
        rw [if_pos rfl, if_pos rfl, if_neg (by decide)]
        exact ⟨held, G', z1, pre z2⟩
      | false =>
        obtain ⟨b61, k1, k2, k3, k4⟩ := t_sign (a := 61) (by unfold bd; decide) htt
        have k2 := k2 hg1
        unfold f_X5_takeSign
        rw [if_neg (c := (false = true)) (by decide), if_neg (c := (false = true)) (by decide), if_pos rfl, k1, ob_some, k2, lt_eq]
        cases b61 with
        | true =>
          obtain ⟨held, G', z1, z2⟩ := cmp_tail (x4 := false) (x5 := false) y3 (lt3 (k4 rfl)) y6 (by omega) hN g y9
          rw [if_pos rfl, if_pos rfl]
          refine ⟨held, G', ?_, pre z2⟩
          rw [ob_ob]
          exact z1
        | false =>
          obtain ⟨M2, f1, f2, f3⟩ := t_failo htt (c := 1) (by decide) 0
          rcases f2.2.2.1 with ⟨s', p', _, ht⟩ | hx
          · exact absurd (ts_19 (m := 0) ht) f3
          · obtain ⟨s', p', hcp⟩ := hx.1
            obtain ⟨held, G', z1, z2⟩ := cx_cmp52 (R := R) (x4 := false) (x5 := false) (t1 := t1) hcp hx.2.1 hcn r2
            rw [if_neg (by decide), if_neg (by decide), f1]
            refine ⟨held, G', z1, pre (Or.inl ⟨gf_t f2.1 z2.1, M2, ?_, tx_cx hx z2, mf_q f2.2.1⟩)⟩
            exact b99_x f3 21
end QCMP2
