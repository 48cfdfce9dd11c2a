/-! QUERY 3: an operand is read -/
section QOP
variable {e : Nat} {G : GlbS} {M : RowS} {R : RowS} {N : Nat → Int32} {S : Nat → Int64}
theorem kd_lt {s p : Nat} (h : TS e s p G M) (hk : ¬ G 3 5 = 0) : s < p := by
  rcases h.2.2.2.2 with ⟨k1, k2, k3⟩ | ⟨k1, k2, k3, k4, k5⟩ | ⟨k1, k2, k3, k4⟩ | ⟨k1, k2, k3⟩
  · exact absurd k1 hk
  · exact k3
  · exact k3
  · exact k3
theorem word_lt {s p i L : Nat} {t : Int64} (hW : LW i L t) (h : TS e s p G M) (hw : f_X8_isWord M t = true) : s < p :=
  kd_lt h (by rw [((m_word hW h).mp hw).1]; decide)
theorem prop_named {s p : Nat} (h : TS e s p G M) (hN : wfN N) (g : Settled R N S) : (∃ q code, f_X2_propertyNamed 1000 R G = some (q, G) ∧ f_X8_propertyHere M = code ∧ ¬ code = -1 ∧ s < p ∧ ∃ u, VC R N S (q - 100) code u) ∨ (f_X2_propertyNamed 1000 R G = some (12, f_X5_fail G 1) ∧ f_X8_propertyHere M = -1) := by
  have htt : TT e 0 G M := Or.inl ⟨s, p, Nat.zero_le s, h⟩
  have hg := ts_19 (m := 0) h
  obtain ⟨va, vb, vc, vd, ve, vf, vg, vh, vi⟩ := vc_all hN g
  unfold f_X2_propertyNamed f_X8_propertyHere
  obtain ⟨b, x, y, _⟩ := t_word lw_qtube htt
  have y := y hg
  rw [x, y, ob_some, lt_eq (a := b)]
  cases b with
  | true =>
    rw [if_pos rfl, if_pos rfl]
    exact Or.inl ⟨11, 0, rfl, rfl, by decide, word_lt lw_qtube h y, _, va⟩
  | false =>
    rw [if_neg (by decide), if_neg (by decide)]
    clear x y
    obtain ⟨b, x, y, _⟩ := t_word lw_qleg htt
    have y := y hg
    rw [x, y, ob_some, lt_eq (a := b)]
    cases b with
    | true =>
      rw [if_pos rfl, if_pos rfl]
      exact Or.inl ⟨0, 1, rfl, rfl, by decide, word_lt lw_qleg h y, _, vb⟩
    | false =>
      rw [if_neg (by decide), if_neg (by decide)]
      clear x y
      obtain ⟨b, x, y, _⟩ := t_word lw_point htt
      have y := y hg
      rw [x, y, ob_some, lt_eq (a := b)]
      cases b with
      | true =>
        rw [if_pos rfl, if_pos rfl]
        exact Or.inl ⟨1, 2, rfl, rfl, by decide, word_lt lw_point h y, _, vc⟩
      | false =>
        rw [if_neg (by decide), if_neg (by decide)]
        clear x y
        obtain ⟨b, x, y, _⟩ := t_word lw_bore htt
        have y := y hg
        rw [x, y, ob_some, lt_eq (a := b)]
        cases b with
        | true =>
          rw [if_pos rfl, if_pos rfl]
          exact Or.inl ⟨2, 3, rfl, rfl, by decide, word_lt lw_bore h y, _, vd⟩
        | false =>
          rw [if_neg (by decide), if_neg (by decide)]
          clear x y
          obtain ⟨b, x, y, _⟩ := t_word lw_slant htt
          have y := y hg
          rw [x, y, ob_some, lt_eq (a := b)]
          cases b with
          | true =>
            rw [if_pos rfl, if_pos rfl]
            exact Or.inl ⟨3, 4, rfl, rfl, by decide, word_lt lw_slant h y, _, ve⟩
          | false =>
            rw [if_neg (by decide), if_neg (by decide)]
            clear x y
            obtain ⟨b, x, y, _⟩ := t_word lw_length htt
            have y := y hg
            rw [x, y, ob_some, lt_eq (a := b)]
            cases b with
            | true =>
              rw [if_pos rfl, if_pos rfl]
              exact Or.inl ⟨4, 5, rfl, rfl, by decide, word_lt lw_length h y, _, vf⟩
            | false =>
              rw [if_neg (by decide), if_neg (by decide)]
              clear x y
              obtain ⟨b, x, y, _⟩ := t_word lw_state htt
              have y := y hg
              rw [x, y, ob_some, lt_eq (a := b)]
              cases b with
              | true =>
                rw [if_pos rfl, if_pos rfl]
                exact Or.inl ⟨6, 6, rfl, rfl, by decide, word_lt lw_state h y, _, vg⟩
              | false =>
                rw [if_neg (by decide), if_neg (by decide)]
                clear x y
                obtain ⟨b, x, y, _⟩ := t_word lw_column htt
                have y := y hg
                rw [x, y, ob_some, lt_eq (a := b)]
                cases b with
                | true =>
                  rw [if_pos rfl, if_pos rfl]
                  exact Or.inl ⟨7, 7, rfl, rfl, by decide, word_lt lw_column h y, _, vh⟩
                | false =>
                  rw [if_neg (by decide), if_neg (by decide)]
                  clear x y
                  obtain ⟨b, x, y, _⟩ := t_word lw_qpress htt
                  have y := y hg
                  rw [x, y, ob_some, lt_eq (a := b)]
                  cases b with
                  | true =>
                    rw [if_pos rfl, if_pos rfl]
                    exact Or.inl ⟨12, 8, rfl, rfl, by decide, word_lt lw_qpress h y, _, vi⟩
                  | false =>
                    rw [if_neg (by decide), if_neg (by decide)]
                    clear x y
                    exact Or.inr ⟨rfl, rfl⟩
def QX (e : Nat) (G : GlbS) (M : RowS) (G' : GlbS) (o : Option RowS) : Prop := GF G G' ∧ ∃ M', o = some M' ∧ TX e G' M' ∧ MQf M M'
theorem t_value {s p c w a : Nat} (h : TS e s p G M) (st : St w c a M) (hc : c < 200) (hN : wfN N) (g : Settled R N S) : ∃ told G', f_X2_operand 1000 R G = some (told, G') ∧ (QX e G M G' (f_X8_valueRead 1000 M) ∨ ∃ s' p' M' u, f_X8_valueRead 1000 M = some M' ∧ GF G G' ∧ TS e s' p' G' M' ∧ s + 1 ≤ s' ∧ MQf M M' ∧ St w (c + 1) a M' ∧ M'.1 24 = M.1 24 ∧ (∀ i, i ≠ c → M'.1 23 i = M.1 23 i) ∧ VC R N S told (M'.1 23 c) u) := by
  have htt : TT e 0 G M := Or.inl ⟨s, p, Nat.zero_le s, h⟩
  have hg := ts_19 (m := 0) h
  have mqa : ∀ {M1 : RowS} {v : Int32}, MQf M1 (si (si M1 23 c v) 0 26 (nI (c + 1))) := mq_t (mq_si (Or.inl rfl)) (mq_si (Or.inr (Or.inr ⟨rfl, Or.inl rfl⟩)))
  have txa : ∀ {G1 : GlbS} {M1 : RowS} {v : Int32}, TX e G1 M1 → TX e G1 (si (si M1 23 c v) 0 26 (nI (c + 1))) := fun q => tx_si (tx_si q (Or.inl rfl)) (Or.inr (Or.inr ⟨rfl, Or.inl rfl⟩))
  have tsa : ∀ {G1 : GlbS} {M1 : RowS} {v : Int32} {s p : Nat}, TS e s p G1 M1 → TS e s p G1 (si (si M1 23 c v) 0 26 (nI (c + 1))) := fun q => ts_si (ts_si q (Or.inl rfl)) (Or.inr (Or.inr ⟨rfl, Or.inl rfl⟩))
  have prop : ¬ G 3 5 = 2 → ¬ M.1 0 16 = 2 → ∃ told G', f_X2_operand 1000 R G = some (told, G') ∧ (QX e G M G' (f_X8_valueRead 1000 M) ∨ ∃ s' p' M' u, f_X8_valueRead 1000 M = some M' ∧ GF G G' ∧ TS e s' p' G' M' ∧ s + 1 ≤ s' ∧ MQf M M' ∧ St w (c + 1) a M' ∧ M'.1 24 = M.1 24 ∧ (∀ i, i ≠ c → M'.1 23 i = M.1 23 i) ∧ VC R N S told (M'.1 23 c) u) := by
    intro n1 n2
    unfold f_X2_operand f_X8_valueRead b_X2_operand_44
    rw [lt_eq, if_neg n1, good_t hg, lt_eq, if_pos rfl, if_neg n2]
    rcases prop_named h hN g with ⟨q, code, y1, y2, y3, y4, u, y5⟩ | ⟨y1, y2⟩
    · rw [y1, y2, ob_some, lt_eq, lt_eq, lt_eq, if_neg y3, m_adds st.2.1 hc, ob_some, lt_eq]
      obtain ⟨G', M', a1, a2, a3⟩ := t_adv (tsa (v := code) h)
      rw [a1, a2, ob_some, ob_some, lt_eq, lt_eq]
      rcases a3.2.2.1 with ⟨s', p', hs, ht⟩ | hx
      · refine ⟨_, G', rfl, Or.inr ⟨s', p', M', u, rfl, a3.1, ht, by omega, mq_t mqa (mf_q a3.2.1), ⟨?_, ?_, ?_⟩, ?_, fun i hi => ?_, ?_⟩⟩
        · rw [a3.2.1.2.2 27 (by decide) (by decide) (by decide) (by decide) (by decide) (by decide), si_ne (Or.inr (by decide)), si_ne (Or.inl (by decide))]; exact st.1
        · rw [a3.2.1.2.2 26 (by decide) (by decide) (by decide) (by decide) (by decide) (by decide)]; exact si_at
        · rw [a3.2.1.2.2 28 (by decide) (by decide) (by decide) (by decide) (by decide) (by decide), si_ne (Or.inr (by decide)), si_ne (Or.inl (by decide))]; exact st.2.2
        · rw [a3.2.1.1 24 (by decide), si_c (by decide), si_c (by decide)]
        · rw [a3.2.1.1 23 (by decide), si_c (by decide), si_ne (Or.inr hi)]
        · rw [a3.2.1.1 23 (by decide), si_c (by decide), si_at]; exact y5
      · exact ⟨_, G', rfl, Or.inl ⟨a3.1, M', rfl, hx, mq_t mqa (mf_q a3.2.1)⟩⟩
    · obtain ⟨M1, e1, e2, e3⟩ := t_failo htt (c := 1) (by decide) 0
      rw [y1, y2, ob_some, lt_eq, lt_eq, lt_eq, if_pos rfl, e1]
      rcases e2.2.2.1 with ⟨s', p', _, ht⟩ | hx
      · exact absurd (ts_19 (m := 0) ht) e3
      · obtain ⟨s', p', hcp⟩ := hx.1
        obtain ⟨G', a1, a2⟩ := cx_adv hcp
        rw [a1, ob_some, lt_eq]
        exact ⟨_, G', rfl, Or.inl ⟨gf_t e2.1 a2.1, M1, rfl, tx_cx hx a2, mf_q e2.2.1⟩⟩
  rcases h.2.2.2.2 with ⟨k1, k2, k3⟩ | ⟨k1, k2, k3, k4, k5⟩ | ⟨k1, k2, k3, v, k4, k5, k6⟩ | ⟨k1, k2, k3⟩
  · exact prop (by rw [k1]; decide) (by rw [k2]; decide)
  · exact prop (by rw [k1]; decide) (by rw [k2]; decide)
  · clear prop
    unfold f_X2_operand f_X8_valueRead b_X2_operand_44
    rw [lt_eq (a := G 3 6), if_pos k1, good_t hg, lt_eq (a := true), if_pos rfl, if_pos k2, k5]
    have e9 : (999999 : Int32) = nI 999999 := rfl
    by_cases hv : v ≤ 999999
    · obtain ⟨G', M', a1, a2, a3⟩ := t_adv h
      have mn : f_X8_number 1000 M 0 999999 = some (nI v, M') := by
        unfold f_X8_number b_X8_number_47
        rw [good_t hg, lt_eq, if_pos rfl, if_pos k2, k6, in_iff.mpr (by rw [i32_ext, i32_ext, i32_ext, nI_toInt (by omega), show (0 : Int32).toInt = 0 from rfl, show (999999 : Int32).toInt = 999999 from rfl]; omega), lt_eq, if_pos rfl, lt_eq, if_pos rfl, a2]
        rfl
      have m26 : M'.1 0 26 = nI c := by rw [a3.2.1.2.2 26 (by decide) (by decide) (by decide) (by decide) (by decide) (by decide)]; exact st.2.1
      rw [if_pos (by rw [e9, nI_leI (by omega) (by omega)]; exact hv), a1, ob_some, lt_eq, mn, ob_some, lt_eq, lt_eq, m_adds m26 hc, ob_some, lt_eq]
      rcases a3.2.2.1 with ⟨s', p', hs, ht⟩ | hx
      · refine ⟨_, G', rfl, Or.inr ⟨s', p', _, fun _ => nI v, rfl, a3.1, tsa ht, by omega, mq_t (mf_q a3.2.1) mqa, ⟨?_, ?_, ?_⟩, ?_, fun i hi => ?_, ?_⟩⟩
        · rw [si_ne (Or.inr (by decide)), si_ne (Or.inl (by decide)), a3.2.1.2.2 27 (by decide) (by decide) (by decide) (by decide) (by decide) (by decide)]; exact st.1
        · exact si_at
        · rw [si_ne (Or.inr (by decide)), si_ne (Or.inl (by decide)), a3.2.1.2.2 28 (by decide) (by decide) (by decide) (by decide) (by decide) (by decide)]; exact st.2.2
        · rw [si_c (by decide), si_c (by decide), a3.2.1.1 24 (by decide)]
        · rw [si_c (by decide), si_ne (Or.inr hi), a3.2.1.1 23 (by decide)]
        · rw [si_c (by decide), si_at]; exact vc_num (by omega)
      · exact ⟨_, G', rfl, Or.inl ⟨a3.1, _, rfl, txa hx, mq_t (mf_q a3.2.1) mqa⟩⟩
    · obtain ⟨M1, e1, e2, e3⟩ := t_failo htt (c := 2) (by decide) 0
      have mn : f_X8_number 1000 M 0 999999 = some (0, M1) := by
        unfold f_X8_number b_X8_number_47
        rw [good_t hg, lt_eq, if_pos rfl, if_pos k2, k6, in_f (by rw [i32_ext, i32_ext, i32_ext, nI_toInt (by omega), show (0 : Int32).toInt = 0 from rfl, show (999999 : Int32).toInt = 999999 from rfl]; omega), lt_eq, if_neg (by decide), e1, lt_eq, lt_eq, good_f e3, lt_eq, if_neg (by decide)]
      have m26 : M1.1 0 26 = nI c := by rw [e2.2.1.2.2 26 (by decide) (by decide) (by decide) (by decide) (by decide) (by decide)]; exact st.2.1
      rw [if_neg (by rw [e9, nI_leI (by omega) (by omega)]; exact hv), lt_eq, lt_eq, mn, ob_some, lt_eq, lt_eq, m_adds m26 hc, ob_some, lt_eq]
      rcases e2.2.2.1 with ⟨s', p', _, ht⟩ | hx
      · exact absurd (ts_19 (m := 0) ht) e3
      · obtain ⟨s', p', hcp⟩ := hx.1
        obtain ⟨G', a1, a2⟩ := cx_adv hcp
        rw [a1, ob_some, lt_eq]
        exact ⟨_, G', rfl, Or.inl ⟨gf_t e2.1 a2.1, _, rfl, txa (tx_cx hx a2), mq_t (mf_q e2.2.1) mqa⟩⟩
  · exact prop (by rw [k1]; decide) (by rw [k2]; decide)
end QOP
