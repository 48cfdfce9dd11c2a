/-! LOAD 2: the clause of a tube -/
theorem add_mark {N : Nat → Int32} {t : Nat} {a b c d e f g : Int32} : va_up (addN N t a b c d e f) (18 + 7 * t + 5) g = addN N t a b c d e g := by
  unfold addN
  rw [← lay_mark (N := N) (t := t) (a := a) (b := b) (c := c) (d := d) (e := e) (f := f) (g := g)]
  funext k
  unfold va_up
  by_cases q : k = 18 + 7 * t + 5
  · rw [if_pos q, if_pos q, if_neg (by omega)]
  · rw [if_neg q]
    by_cases q2 : k = 2
    · rw [if_pos q2, if_pos q2]
    · rw [if_neg q2, if_neg q2, if_neg q]
theorem mark_rel {R : RowS} {N : Nat → Int32} {S : Nat → Int64} (h : wfN N) (r : Rel R N S) {t : Nat} (ht : t < 12) {v : Int32} : Rel (si R (t + 5) 5 v) (va_up N (18 + 7 * t + 5) v) S :=
  rel_cell h r (by omega) (fun k hk => by omega) (fun q hq => by omega) (fun j hj k hk => by omega) (fun t' ht' k hk => by omega)
theorem m_laid {M : RowS} {t : Nat} (ht : t < 12) (a b c d e f : Int32) (hg : M.1 0 19 = 0) : b_X8_readsTube_94 (nI t) a b c d e f M = some (mk M (addN (M.1 1) t a b c d e f) (M.2 5)) := by
  unfold b_X8_readsTube_94
  have e5 : f_X8_cell (nI t) 5 = nI (18 + 7 * t + 5) := m_cell t 5
  have e2 : (2 : Int32).toNatClampNeg = 2 := rfl
  rw [good_t hg, lt_eq, if_pos rfl, m_lays ht, ob_some, lt_eq, lt_eq, e5, if_pos (by rw [nI_toInt (by omega)]; omega), nI_clamp (by omega), mk_si, lay_mark, lt_eq, if_pos (by decide), e2, mk_si, nI_1]
  rfl
theorem m_laid_x {M : RowS} {t : Nat} (a b c d e f : Int32) (hg : ¬ M.1 0 19 = 0) : b_X8_readsTube_94 (nI t) a b c d e f M = some M := by
  unfold b_X8_readsTube_94
  rw [good_f hg, lt_eq, if_neg (by decide)]
section TUBEC
variable {e m : Nat} {G : GlbS} {M : RowS} {R : RowS}
theorem cl_tube {s p : Nat} (h : TS e s p G M) (hm : m ≤ s) (w : RWf R M) (z : ZM M) : ∃ R' G' M2, f_X4_readTube 1000 R G = some (R', G') ∧ f_X8_readsTube 1000 M = some M2 ∧ RO e m G M G' M2 R' := by
  have hc := cnt_le w.1
  have n2' := n2 w.1
  have e2 : (2 : Int32).toNatClampNeg = 2 := rfl
  have e0 : (0 : Int32).toNatClampNeg = 0 := rfl
  have r2 : R.1 0 2 = nI (cnt (M.1 1)) := by rw [w.2.1.2.2.1, n2']
  have htt : TT e m G M := Or.inl ⟨s, p, hm, h⟩
  unfold f_X4_readTube f_X8_readsTube
  rw [r2, if_pos (show 0 ≤ (2 : Int32).toInt ∧ (2 : Int32).toInt < 102 by decide), e2, n2', lt_eq (a := nI (cnt (M.1 1)))]
  by_cases hq : cnt (M.1 1) < 12
  · rw [if_pos (by rw [show (12 : Int32) = nI 12 from rfl]; exact nI_lt hq (by omega)), if_neg (by rw [show (12 : Int32) = nI 12 from rfl]; intro y; have := congrArg Int32.toInt y; rw [nI_toInt (by omega), nI_toInt (by omega)] at this; omega)]
    obtain ⟨t, ht⟩ : ∃ t, t = cnt (M.1 1) := ⟨_, rfl⟩
    rw [← ht] at hq
    rw [← ht] at r2
    rw [← ht]
    have ap : f_X3_append R = (t, si R 0 2 (nI (t + 1))) := by
      unfold f_X3_append
      have y1 : (si R 0 2 (nI (t + 1))).1 0 2 = nI (t + 1) := si_at
      have y2 : nI (t + 1) - 1 = nI t := by rw [show (1 : Int32) = nI 1 from rfl, pk_sub (by omega), Nat.add_sub_cancel]
      rw [r2, if_pos (by rw [show (12 : Int32) = nI 12 from rfl]; exact nI_lt hq (by omega)), nI_1, lt_eq, y1, y2, c_tubeAt (by omega)]
      rfl
    obtain ⟨hp1, hp2⟩ := hi_pt w.1
    obtain ⟨G1, M1, a1, a2, o0⟩ := t_adv h
    have o0 : TO e m G M G1 M1 := ⟨o0.1, o0.2.1, tt_le o0.2.2.1 (by have := h.1.2.2.2.1; omega), o0.2.2.2⟩
    obtain ⟨v1, w1, G2, M2, c1, d1, o1, b1, b1', q1⟩ := t_num (lo := 0) (hi := 1) (by decide) o0.2.2.1
    obtain ⟨v2, w2, G3, M3, c2, d2, o2, b2, b2', q2⟩ := t_num (lo := 0) (hi := M.1 1 0 - 1) hp2 o1.2.2.1
    obtain ⟨v3, w3, G4, M4, c3, d3, o3, b3, b3', q3⟩ := t_num (lo := 1) (hi := 20) (by decide) o2.2.2.1
    obtain ⟨v4, w4, G5, M5, c4, d4, o4, b4, b4', q4⟩ := t_num (lo := 50) (hi := 1000) (by decide) o3.2.2.1
    obtain ⟨v5, w5, G6, M6, c5, d5, o5, b5, b5', q5⟩ := t_num (lo := 10) (hi := 2000) (by decide) o4.2.2.1
    have b1 : bd v1 0 1 := b1
    have b2 : bd v2 0 (M.1 1 0 - 1).toInt := b2
    rw [hp1] at b2
    have b3 : bd v3 1 20 := b3
    have b4 : bd v4 50 1000 := b4
    have b5 : bd v5 10 2000 := b5
    have oA := to_t o0 (to_t o1 (to_t o2 (to_t o3 (to_t o4 o5))))
    obtain ⟨b, c, M7, p1, p2, p3, p4, p5, p6⟩ := t_pass lw_mark o5.2.2.1
    have m2 : M2.1 1 0 = M.1 1 0 := by rw [o1.2.1.1 1 (by decide), o0.2.1.1 1 (by decide)]
    have rr : (si R 0 2 (nI (t + 1))).1 0 0 = M.1 1 0 := by rw [si_ne (Or.inr (by decide))]; exact w.2.1.1
    simp only [lt, ob_some, a1, a2, ap, c1, d1, rr, e0, m2, c2, d2, c3, d3, c4, d4, c5, d5, p1, p2, stT_1]
    rw [if_pos (show 0 ≤ (0 : Int32).toInt ∧ (0 : Int32).toInt < 102 by decide)]
    have fin : ∀ (G' : GlbS) (M' : RowS) (f : Int32) (R' : RowS), TO e m G6 M6 G' M' → bd f (-9999) 9999 → (M'.1 0 19 = 0 → R' = addR R t v1 v2 v3 v4 v5 ∧ f = 0 ∨ R' = si (addR R t v1 v2 v3 v4 v5) (t + 5) 5 f) → RO e m G M G' (if M'.1 0 19 = 0 then mk M' (addN (M'.1 1) t v1 v2 v3 v4 v5 f) (M'.2 5) else M') R' := by
      intro G' M' f R' oB bf hR
      have oC := to_t oA oB
      have zz := zm_mf z oC.2.1
      by_cases hg : M'.1 0 19 = 0
      · rw [if_pos hg]
        have f1 : M'.1 1 = M.1 1 := oC.2.1.1 1 (by decide)
        have f5 : M'.2 5 = M.2 5 := oC.2.1.2.1 5 (by decide)
        have wfA : ∀ {f : Int32}, bd f (-9999) 9999 → wfN (addN (M.1 1) t v1 v2 v3 v4 v5 f) := fun hf => by rw [ht]; exact addN_wf w.1 (by omega) b1 (by unfold bd at b2; omega) b3 b4 b5 hf
        have rA : Rel (addR R t v1 v2 v3 v4 v5) (addN (M.1 1) t v1 v2 v3 v4 v5 0) Z0 := by rw [ht]; exact addR_rel w.1 w.2.1 (by omega)
        refine ⟨oC.1, mg_t (mf_g oC.2.1) mg_mk, tt_mk oC.2.2.1, ?_, fun _ => ⟨oC.2.2.2 hg, ?_⟩⟩
        · unfold ZM
          rw [mk_1, mk_2]
          exact addN_zb zz hq
        · unfold RWf
          rw [mk_1, mk_2, f1, f5]
          refine ⟨wfA bf, ?_, w.2.2⟩
          rcases hR hg with ⟨x1, x2⟩ | x1
          · rw [x1, x2]; exact rA
          · rw [x1]
            have := mark_rel (wfA (f := 0) (by unfold bd; decide)) rA hq (v := f)
            rw [add_mark] at this
            exact this
      · rw [if_neg hg]
        exact ⟨oC.1, mf_g oC.2.1, oC.2.2.1, zz, fun q => absurd q hg⟩
    have lay : ∀ (M' : RowS) (f g : Int32), (M'.1 0 19 = 0 → M6.1 0 19 = 0 ∧ g = f) → b_X8_readsTube_94 (nI t) w1 w2 w3 w4 w5 g M' = some (if M'.1 0 19 = 0 then mk M' (addN (M'.1 1) t v1 v2 v3 v4 v5 f) (M'.2 5) else M') := by
      intro M' f g hh
      by_cases hg : M'.1 0 19 = 0
      · obtain ⟨h6, hf⟩ := hh hg
        have g5 := o5.2.2.2 h6
        have g4 := o4.2.2.2 g5
        have g3 := o3.2.2.2 g4
        have g2 := o2.2.2.2 g3
        rw [if_pos hg, m_laid hq _ _ _ _ _ _ hg, q1 g2, q2 g3, q3 g4, q4 g5, q5 h6, hf]
      · rw [if_neg hg, m_laid_x _ _ _ _ _ _ hg]
    have tt6 : TO e m G6 M6 G6 M6 := ⟨gf_r, mf_r, oA.2.2.1, fun q => q⟩
    by_cases h6 : M6.1 0 19 = 0
    · have hcb := p3 h6
      subst hcb
      cases c with
      | true =>
        obtain ⟨G8, a8, o8⟩ := p5 rfl
        obtain ⟨v9, w9, G9, M9, c9, d9, o9, b9, b9', q9⟩ := t_signed o8.2.2.1
        rw [if_pos rfl, if_pos rfl, a8, d9]
        simp only [ob_some, c9]
        refine ⟨_, G9, _, rfl, lay M9 v9 w9 (fun q => ⟨h6, (q9 q).symm⟩), fin G9 M9 v9 _ (to_t o8 o9) b9 (fun q => Or.inr rfl)⟩
      | false =>
        have e7 := p4 rfl
        subst e7
        rw [if_neg (by decide), if_neg (by decide)]
        exact ⟨_, G6, _, rfl, lay M7 0 0 (fun q => ⟨q, rfl⟩), fin G6 M7 0 _ tt6 (by unfold bd; decide) (fun q => Or.inl ⟨rfl, rfl⟩)⟩
    · have hcf := p6 h6
      subst hcf
      have e7 := p4 rfl
      subst e7
      rw [if_neg (c := (false = true)) (by decide)]
      cases b with
      | true =>
        rcases oA.2.2.1 with ⟨s', p', _, hts⟩ | hx
        · exact absurd (ts_19 (m := 0) hts) h6
        · obtain ⟨s', p', hcp⟩ := hx.1
          obtain ⟨G8, a8, o8⟩ := cx_adv hcp
          have o8' : TO e m G6 M7 G8 M7 := to_x hx o8
          obtain ⟨v9, w9, G9, M9, c9, d9, o9, b9, b9', q9⟩ := t_signed o8'.2.2.1
          have hx9 : TX e G9 M7 := by
            rcases o9.2.2.1 with ⟨s2, p2', _, ht2⟩ | hx2
            · exact absurd (o9.2.2.2 (ts_19 (m := 0) ht2)) h6
            · have hx8 := tx_cx hx o8
              obtain ⟨z1, z2, z3, z4⟩ := hx2
              have : M9 = M7 := by
                have hd : f_X8_signed 1000 M7 = some (0, M7) := by
                  unfold f_X8_signed f_X8_isByte b_X8_signed_15 f_X8_number
                  rw [good_f h6, lt_eq, if_neg (by decide), ob_some, if_neg (by decide), lt_eq, if_neg (by decide)]
                  rfl
                rw [hd] at d9
                exact (congrArg (fun o : Option (Int32 × RowS) => (o.getD (0, M7)).2) d9).symm
              subst this
              exact ⟨z1, z2, z3, z4⟩
          rw [if_pos rfl, a8]
          simp only [ob_some, c9]
          have oX : TO e m G6 M7 G9 M7 := ⟨gf_t o8.1 o9.1, mf_r, Or.inr hx9, fun q => q⟩
          exact ⟨_, G9, _, rfl, lay M7 0 0 (fun q => absurd q h6), fin G9 M7 0 _ oX (by unfold bd; decide) (fun q => absurd q h6)⟩
      | false =>
        rw [if_neg (by decide)]
        exact ⟨_, G6, _, rfl, lay M7 0 0 (fun q => absurd q h6), fin G6 M7 0 _ tt6 (by unfold bd; decide) (fun q => absurd q h6)⟩
  · have h12 : cnt (M.1 1) = 12 := by omega
    rw [h12, if_neg (show ¬ nI 12 < 12 by decide), if_pos (show nI 12 = 12 from rfl)]
    obtain ⟨M', g1, g2, g3⟩ := t_failo htt (c := 3) (by decide) m
    rw [g1]
    exact ⟨R, _, M', rfl, rfl, g2.1, mf_g g2.2.1, g2.2.2.1, zm_mf z g2.2.1, fun q => absurd q g3⟩
end TUBEC
