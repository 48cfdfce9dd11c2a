/-! TOKENS 5: what is taken -/
section TOKP
variable {e m : Nat} {G : GlbS} {M : RowS}
theorem c_sign {s p : Nat} (h : CP e s p G) (hs : s < 600) (a : Int32) : f_X5_isSign G a = true ↔ G 3 5 = 3 ∧ G 4 s = a := by
  obtain ⟨a2, a3, a4, a5, a6, a7⟩ := h
  unfold f_X5_isSign
  rw [a4, c_byteAt hs, lt_eq]
  by_cases c : G 3 5 = 3
  · rw [if_pos c]
    by_cases d : G 4 s = a
    · rw [if_pos d]; exact ⟨fun _ => ⟨c, d⟩, fun _ => rfl⟩
    · rw [if_neg d]; exact ⟨fun z => (by cases z), fun z => absurd z.2 d⟩
  · rw [if_neg c]; exact ⟨fun z => (by cases z), fun z => absurd z.1 c⟩
theorem t_sign {a : Int32} (ha : bd a 0 127) (h : TT e m G M) : ∃ b, f_X8_isByte M a = some b ∧ (M.1 0 19 = 0 → f_X5_isSign G a = b) ∧ (¬ M.1 0 19 = 0 → b = false) ∧ (b = true → G 3 5 = 3) := by
  rcases h with ⟨s, p, hm, h⟩ | h
  · have hp := h.1
    obtain ⟨⟨a2, a3, a4, a5, a6, a7⟩, ⟨b1, b2, b3, b4⟩, ⟨d1, d2, d3⟩, hB, hK⟩ := h
    have neg : ∀ {v w : Int32}, G 3 5 = v → M.1 0 16 = w → ¬ v = 3 → ¬ w = 3 → ∃ b, f_X8_isByte M a = some b ∧ (M.1 0 19 = 0 → f_X5_isSign G a = b) ∧ (¬ M.1 0 19 = 0 → b = false) ∧ (b = true → G 3 5 = 3) := by
      intro v w k1 k2 k3 k4
      refine ⟨false, ?_, fun _ => ?_, fun _ => rfl, fun z => (by cases z)⟩
      · unfold f_X8_isByte f_X8_isGood
        rw [b2, if_pos rfl, lt_eq, if_pos rfl, k2, if_neg k4]
      · unfold f_X5_isSign
        rw [k1, if_neg k3]
    rcases hK with ⟨k1, k2, k3⟩ | ⟨k1, k2, k3, k4, k5⟩ | ⟨k1, k2, k3, k4⟩ | ⟨k1, k2, k3⟩
    · exact neg k1 k2 (by decide) (by decide)
    · exact neg k1 k2 (by decide) (by decide)
    · exact neg k1 k2 (by decide) (by decide)
    · have hb := hB s (by omega)
      have hc := c_sign hp (by omega) a
      rw [hb.2, by_eq hb.1 ha] at hc
      unfold f_X8_isByte f_X8_isGood
      rw [b2, if_pos rfl, lt_eq, if_pos rfl, k2, if_pos rfl, d3, if_pos (by rw [nI_toInt (by omega)]; omega), nI_clamp (by omega)]
      by_cases q : M.1 11 s = a
      · rw [if_pos q]
        exact ⟨true, rfl, fun _ => hc.mpr ⟨k1, q⟩, fun z => absurd rfl z, fun _ => k1⟩
      · rw [if_neg q]
        refine ⟨false, rfl, fun _ => ?_, fun z => absurd rfl z, fun z => (by cases z)⟩
        cases hh : f_X5_isSign G a with
        | false => rfl
        | true => exact absurd (hc.mp hh).2 q
  · refine ⟨false, ?_, fun z => absurd z (tx_19 h), fun _ => rfl, fun z => (by cases z)⟩
    unfold f_X8_isByte f_X8_isGood
    rw [if_neg (tx_19 h), lt_eq, if_neg (by decide)]
/-- on, at a token that is not the end -/
theorem t_adv {s p : Nat} (h : TS e s p G M) : ∃ G' M', f_X5_advance 1000 G = some G' ∧ f_X8_next 1000 M = some M' ∧ TO e p G M G' M' := by
  have h19 := ts_19 (m := 0) h
  obtain ⟨hp, h7, hM, hB, hK⟩ := h
  obtain ⟨G', M', q, r, g1, g2, g3, g4, g5, g6⟩ := adv_ok hp h7 ⟨hM.1, hM.2.1⟩ hB
  exact ⟨G', M', g1, g2, g5, g6, Or.inl ⟨q, r, g3, g4⟩, fun _ => h19⟩
theorem cp_fail {s p : Nat} (h : CP e s p G) (c : Int32) : (∃ s p, CP e s p (f_X5_fail G c)) ∧ GF G (f_X5_fail G c) := by
  unfold f_X5_fail
  by_cases z : G 3 7 = 0
  · rw [if_pos z, lt_eq, lt_eq]
    obtain ⟨a2, a3, a4, a5, a6, a7⟩ := h
    refine ⟨⟨s, p, ?_, ?_, ?_, a5, a6, a7⟩, fun c hc => ?_, fun k hk => ?_⟩
    · rw [sg_ne (Or.inr (by decide)), sg_ne (Or.inr (by decide))]; exact a2
    · rw [sg_ne (Or.inr (by decide)), sg_ne (Or.inr (by decide))]; exact a3
    · rw [sg_ne (Or.inr (by decide)), sg_ne (Or.inr (by decide))]; exact a4
    · rw [sg_c hc, sg_c hc]
    · rw [sg_ne (Or.inr (by omega)), sg_ne (Or.inr (by omega))]
  · rw [if_neg z]
    exact ⟨⟨s, p, h⟩, gf_r⟩
theorem cx_fail {s p : Nat} (h : CP e s p G) (h7 : ¬ G 3 7 = 0) (c : Int32) : CX e G (f_X5_fail G c) := by
  unfold f_X5_fail
  rw [if_neg h7]
  exact ⟨gf_r, rfl, rfl, s, p, h⟩
theorem wr_x (h : ¬ M.1 0 19 = 0) (c : Int32) : f_X8_wrongs M c = (false, M) := by
  unfold f_X8_wrongs
  rw [if_neg h]
theorem t_fail (h : TT e m G M) {c : Int32} (hc : ¬ c = 0) : ∃ M', f_X8_wrongs M c = (false, M') ∧ TX e (f_X5_fail G c) M' ∧ GF G (f_X5_fail G c) ∧ MF M M' := by
  rcases h with ⟨s, p, hm, h⟩ | h
  · have hp := h.1
    obtain ⟨⟨a2, a3, a4, a5, a6, a7⟩, ⟨b1, b2, b3, b4⟩, ⟨d1, d2, d3⟩, hB, hK⟩ := h
    obtain ⟨f1, f2⟩ := cp_fail hp c
    refine ⟨si (si M 0 19 c) 0 20 (nI s), ?_, ⟨f1, ?_, ?_, ?_⟩, f2, fun c hc => ?_, fun c hc => rfl, fun k _ _ _ _ k5 k6 => ?_⟩
    · unfold f_X8_wrongs
      rw [if_pos b2, lt_eq, si_ne (Or.inr (by decide)), d3, lt_eq]
    · unfold f_X5_fail
      rw [if_pos b1, lt_eq, lt_eq, sg_ne (Or.inr (by decide)), sg_at]; exact hc
    · unfold f_X5_fail
      rw [if_pos b1, lt_eq, lt_eq, sg_ne (Or.inr (by decide)), sg_at, si_ne (Or.inr (by decide)), si_at]
    · unfold f_X5_fail
      rw [if_pos b1, lt_eq, lt_eq, sg_at, sg_ne (Or.inr (by decide)), a4, si_at]
    · unfold si; simp only [va_up_ne _ _ hc]
    · rw [si_ne (Or.inr k6), si_ne (Or.inr k5)]
  · obtain ⟨s, p, hp⟩ := h.1
    have k := cx_fail hp h.2.1 c
    exact ⟨M, wr_x (tx_19 h) c, tx_cx h k, k.1, mf_r⟩
theorem t_failo (h : TT e m G M) {c : Int32} (hc : ¬ c = 0) (m' : Nat) : ∃ M', f_X8_wrongs M c = (false, M') ∧ TO e m' G M (f_X5_fail G c) M' ∧ ¬ M'.1 0 19 = 0 := by
  obtain ⟨M', h1, h2, h3, h4⟩ := t_fail h hc
  exact ⟨M', h1, ⟨h3, h4, Or.inr h2, fun z => absurd z (tx_19 h2)⟩, tx_19 h2⟩
theorem good_t (h : M.1 0 19 = 0) : f_X8_isGood M = true := by unfold f_X8_isGood; rw [if_pos h]
theorem good_f (h : ¬ M.1 0 19 = 0) : f_X8_isGood M = false := by unfold f_X8_isGood; rw [if_neg h]
theorem cx_takeSign {s p : Nat} (h : CP e s p G) (h7 : ¬ G 3 7 = 0) (a : Int32) : ∃ G', f_X5_takeSign 1000 G a = some G' ∧ CX e G G' := by
  unfold f_X5_takeSign
  rw [lt_eq]
  cases f_X5_isSign G a with
  | true =>
    obtain ⟨G', g1, g2⟩ := cx_adv h
    rw [if_pos rfl, g1]
    exact ⟨G', rfl, g2⟩
  | false =>
    rw [if_neg (by decide)]
    exact ⟨_, rfl, cx_fail h h7 1⟩
theorem cx_takeNumber {s p : Nat} (h : CP e s p G) (h7 : ¬ G 3 7 = 0) {lo hi : Int32} (hl : lo.toInt ≤ hi.toInt) : ∃ v G', f_X5_takeNumber 1000 G lo hi = some (v, G') ∧ CX e G G' ∧ bd v lo.toInt hi.toInt := by
  unfold f_X5_takeNumber b_X5_takeNumber_30
  rw [lt_eq]
  have fl := ∀ c, CX e G (f_X5_fail G c)
  have hlo : bd lo lo.toInt hi.toInt := by unfold bd; omega
  by_cases c1 : G 3 5 = 2
  · rw [if_pos c1]
    by_cases c2 : G 3 6 < lo
    · rw [if_pos c2]; exact ⟨lo, _, rfl, cx_fail h h7 2, hlo⟩
    · rw [if_neg c2]
      by_cases c3 : G 3 6 ≤ hi
      · obtain ⟨G', g1, g2⟩ := cx_adv h
        rw [if_pos c3, g1]
        refine ⟨G 3 6, G', rfl, g2, ?_⟩
        rw [i32_lt] at c2
        rw [i32_le] at c3
        unfold bd
        omega
      · rw [if_neg c3]; exact ⟨lo, _, rfl, cx_fail h h7 2, hlo⟩
  · rw [if_neg c1]; exact ⟨lo, _, rfl, cx_fail h h7 1, hlo⟩
/-- `;` and its like: the token, or an error -/
theorem t_must {a : Int32} (ha : bd a 0 127) (h : TT e m G M) : ∃ G' M', f_X5_takeSign 1000 G a = some G' ∧ f_X8_must 1000 M a = some M' ∧ TO e (m + 1) G M G' M' := by
  obtain ⟨b, s1, s2, s3, s4⟩ := t_sign ha h
  unfold f_X8_must
  by_cases hg : M.1 0 19 = 0
  · rw [good_t hg, lt_eq, if_pos rfl, s1, ob_some]
    unfold f_X5_takeSign
    rw [s2 hg, lt_eq]
    cases b with
    | true =>
      rcases h with ⟨s, p, hm, h⟩ | h
      · obtain ⟨G', M', g1, g2, g3⟩ := t_adv h
        have sp : s < p := by
          have hk := s4 rfl
          rcases h.2.2.2.2 with ⟨k1, k2, k3⟩ | ⟨k1, k2, k3, k4, k5⟩ | ⟨k1, k2, k3, k4⟩ | ⟨k1, k2, k3⟩
          · rw [hk] at k1; exact absurd k1 (by decide)
          · exact k3
          · exact k3
          · exact k3
        rw [if_pos rfl, if_pos rfl, g1, g2]
        exact ⟨G', M', rfl, rfl, g3.1, g3.2.1, tt_le g3.2.2.1 (by omega), g3.2.2.2⟩
      · exact absurd hg (tx_19 h)
    | false =>
      obtain ⟨M', g1, g2, g3⟩ := t_failo h (c := 1) (by decide) (m + 1)
      rw [if_neg (by decide), if_neg (by decide), g1]
      exact ⟨_, M', rfl, rfl, g2⟩
  · rw [good_f hg, lt_eq, if_neg (by decide)]
    rcases h with ⟨s, p, hm, h⟩ | h
    · exact absurd (ts_19 (m := 0) h) hg
    · obtain ⟨s, p, hp⟩ := h.1
      obtain ⟨G', g1, g2⟩ := cx_takeSign hp h.2.1 a
      exact ⟨G', M, g1, rfl, to_x h g2⟩
end TOKP
