/-! QUERY 11: factors -/
section FAC
variable {e : Nat} {R : RowS} {N : Nat → Int32} {S : Nat → Int64}
theorem fac_not (hN : wfN N) {w c d d0 a : Nat} {M M2 M3 : RowS} {held : Int32} (m2 : MQf M M2) (f24 : ∀ i, i < w → M2.1 24 i = M.1 24 i) (f23 : M2.1 23 = M.1 23) (g : Got N S (w + 1) c d d0 M2 M3 held) : Got N S w c (d + 1) a M (si (popM M3 w (c + d) 23) 0 28 (nI a)) ((held ^^^ (-1)) &&& (((1 : Int32) <<< (nI (cnt N) &&& 31)) - 1)) := by
  obtain ⟨q1, q2, q3, q4, β, q5, q6⟩ := g
  have e23 : (si (popM M3 w (c + d) 23) 0 28 (nI a)).1 23 = (popM M3 w (c + d) 23).1 23 := si_c (by decide)
  have st := pop_st (M := M3) (w := w) (c := c + d) (t := 23) q2.2.2
  refine ⟨mq_t (mq_t (mq_t m2 q1) pop_mq) (mq_si (Or.inr (Or.inr ⟨rfl, Or.inr (Or.inr rfl)⟩))), ⟨?_, ?_, si_at⟩, fun i hi => ?_, fun i hi => ?_, fun i => !β i, hb_not q5 (cnt_le hN), fun k hk s => ?_⟩
  · rw [si_ne (Or.inr (by decide))]; exact st.1
  · rw [si_ne (Or.inr (by decide))]; exact st.2.1
  · rw [si_c (by decide), pop_24, q3 i (by omega), f24 i hi]
  · rw [e23, pop_23 (by omega), q4 i hi, f23]
  · have e1 : exN N S k ((popM M3 w (c + d) 23).1 23) c d s = b2i (β k) :: s := by
      rw [ex_congr (g := M3.1 23) d (fun i h1 h2 => by rw [pop_23 (by omega)])]
      exact q6 k hk s
    rw [e23, exN, pop_c, e1, ex1_23]
theorem factor_ok (he : e ≤ 200) (hN : wfN N) (g : Settled R N S) : ∀ k a, 7 ≤ a + k → a ≤ 6 → FOK e N S R k a := by
  have hcn := cnt_le hN
  have r2 : R.1 0 2 = nI (cnt N) := by rw [g.1.2.2.1, n2 hN]
  intro k
  induction k with
  | zero => intro a h1 h2; omega
  | succ k ih =>
    intro a hka ha w c s p G M h st hb
    show ∃ held G', fb_X2_factor 1000 (f_X2_factor 1000 k) R G (nI a) = some (held, G') ∧ GF G G' ∧ FOut e N S w c a s M G' held
    have hse : s ≤ e := by have := h.1.2.2.2; omega
    have hpe := h.1.2.2.2.2.1
    have hg := ts_19 (m := 0) h
    have htt : TT e 0 G M := Or.inl ⟨s, p, Nat.zero_le s, h⟩
    obtain ⟨b, x1, x2, _⟩ := t_word lw_not htt
    have x2 := x2 hg
    obtain ⟨b40, s1, s2, s3, s4⟩ := t_sign (a := 40) (by unfold bd; decide) htt
    have s2 := s2 hg
    have inn : ∀ (y : Int32) (b0 : Bool), ((f_X8_isWord M 10631 = true ∧ y = 23) ∨ (f_X8_isWord M 10631 = false ∧ f_X8_isByte M 40 = some true ∧ y = 1)) → s < p → (b0 = true ↔ y = 23) → ∃ held G', b_X2_factor_31 1000 (f_X2_factor 1000 k) R (nI a) b0 G = some (held, G') ∧ GF G G' ∧ FOut e N S w c a s M G' held := by
      intro y b0 hy hsp hb0
      unfold b_X2_factor_31
      by_cases ha6 : a < 6
      · obtain ⟨G1, M2, q, r, a1, a2, a3, a4, a5, a6, a7, a8, a9, a10⟩ := goesIn_ok (y := y) h st ha6 (by omega)
        have run : ∀ i j, eA (i + 1) j M = eA i j M2 := fun i j => by
          rw [eA_in hy, a2, ob_some, if_pos rfl]
        rw [if_pos (by rw [show (6 : Int32) = nI 6 from rfl]; exact nI_lt ha6 (by omega)), a1, ob_some, lt_eq, nI_1]
        cases b0 with
        | true =>
          have hy23 := hb0.mp rfl
          obtain ⟨h2, G2, f1, f2, f3⟩ := ih (a + 1) (by omega) (by omega) (w + 1) c q r G1 M2 a4 a7 (by omega)
          rw [if_pos rfl, f1, ob_some, lt_eq, r2]
          refine ⟨_, G2, rfl, gf_t a5 f2, ?_⟩
          rcases f3 with ⟨M9, e1, e2, e3⟩ | ⟨s', p', M3, d, t1, t2, t3, t4, t5⟩
          · refine Or.inl ⟨M9, e1, mq_t a6 e2, fun i j h1 h2 => ?_⟩
            obtain ⟨i, rfl⟩ : ∃ k, i = k + 1 := ⟨i - 1, by omega⟩
            rw [run]
            exact e3 i j (by omega) (by omega)
          · have top : M3.1 24 w = 23 := by rw [t4.2.2.1 w (by omega), a8, hy23]
            have hse' : s' ≤ e := by have := t1.1.2.2.2; omega
            refine Or.inr ⟨s', p', si (popM M3 w (c + d) 23) 0 28 (nI a), d + 1, ts_si (pop_ts t1) (Or.inr (Or.inr ⟨rfl, Or.inr (Or.inr rfl)⟩)), by omega, by omega, fac_not hN a6 a9 a10 t4, fun i j X h1 h2 hX => ?_⟩
            obtain ⟨i, rfl⟩ : ∃ k, i = k + 1 := ⟨i - 1, by omega⟩
            rw [run]
            refine t5 i j X (by omega) (by omega) (fun g h j' g1 g2 g3 => ?_)
            obtain ⟨g, rfl⟩ : ∃ k, g = k + 1 := ⟨g - 1, by omega⟩
            rw [eS_not (ts_19 (m := 0) t1) t4.2.1 (by omega) (by omega) (by omega) top]
            exact hX g h j' (by omega) g2 g3
        | false =>
          have hy1 : y = 1 := by
            rcases hy with ⟨_, z⟩ | ⟨_, _, z⟩
            · exact absurd (hb0.mpr z) (by decide)
            · exact z
          obtain ⟨h2, G2, f1, f2, f3⟩ := test_ok (ih (a + 1) (by omega) (by omega)) he a4 a7 (by omega) (Or.inr (by rw [Nat.add_sub_cancel, a8, hy1, str_1]; decide))
          rw [if_neg (by decide), f1, ob_some, lt_eq, lt_eq]
          rcases f3 with ⟨M9, e1, e2, e3⟩ | ⟨s', p', M6, M7, d, u1, u2, u3, u4, u5, u6, ⟨bi, u7, u7'⟩, u8, u9, u10⟩
          · obtain ⟨s'', p'', hcp⟩ := e1.1
            obtain ⟨G3, c1, c2⟩ := cx_takeSign hcp e1.2.1 41
            have c1 : f_X5_takeSign 1000 (h2, G2).snd 41 = some G3 := c1
            rw [c1]
            refine ⟨h2, G3, rfl, gf_t a5 (gf_t f2 c2.1), Or.inl ⟨M9, tx_cx e1 c2, mq_t a6 e2, fun i j h1 h2 => ?_⟩⟩
            obtain ⟨i, rfl⟩ : ∃ k, i = k + 1 := ⟨i - 1, by omega⟩
            rw [run]
            exact e3 i j (by omega) (by omega)
          · have hse' : s' ≤ e := by have := u1.1.2.2.2; omega
            have hg6 := ts_19 (m := 0) u1
            have htt6 : TT e 0 G2 M6 := Or.inl ⟨s', p', Nat.zero_le s', u1⟩
            have hbi : bi = true := u7'.mpr ⟨w, by omega, by rw [a8, hy1]⟩
            rw [hbi] at u7
            obtain ⟨b41, k1, k2, k3, k4⟩ := t_sign (a := 41) (by unfold bd; decide) htt6
            have k2 := k2 hg6
            have sw : f_X5_takeSign 1000 (h2, G2).snd 41 = if b41 = true then f_X5_advance 1000 G2 else some (f_X5_fail G2 1) := by
              show f_X5_takeSign 1000 G2 41 = _
              unfold f_X5_takeSign
              rw [k2, lt_eq]
              cases b41 with
              | true =>
                rw [if_pos rfl, if_pos rfl]
                cases f_X5_advance 1000 G2 with
                | none => rfl
                | some x => rfl
              | false => rfl
            rw [sw]
            cases b41 with
            | true =>
              have hsp' : s' < p' := kd_lt u1 (by rw [k4 rfl]; decide)
              have e27 : M7.1 0 27 - 1 = nI w := by rw [u6.2.1.1, show (1 : Int32) = nI 1 from rfl, pk_sub (by omega), Nat.add_sub_cancel]
              have e28 : (si M7 0 27 (nI w)).1 0 28 - 1 = nI a := by rw [si_ne (Or.inr (by decide)), u6.2.1.2.2, show (1 : Int32) = nI 1 from rfl, pk_sub (by omega), Nat.add_sub_cancel]
              obtain ⟨Mp, hMp⟩ : ∃ Mp, Mp = si (si M7 0 27 (nI w)) 0 28 (nI a) := ⟨_, rfl⟩
              have tp : TS e s' p' G2 Mp := by
                rw [hMp]
                exact ts_si (ts_si u5 (Or.inr (Or.inr ⟨rfl, Or.inr (Or.inl rfl)⟩))) (Or.inr (Or.inr ⟨rfl, Or.inr (Or.inr rfl)⟩))
              obtain ⟨G3, M8, q3, r3, v1, v2, v3, v4, v5, v6⟩ := adv_ts tp
              have hB : ∀ h j, eB (h + 1) j M6 = eS 1000 h j M8 := fun h j => eB_in k1 u7 u4.1 (by rw [e27, e28, ← hMp]; exact v2)
              have mp : MQf M7 Mp := by
                rw [hMp]
                exact mq_t (mq_si (Or.inr (Or.inr ⟨rfl, Or.inr (Or.inl rfl)⟩))) (mq_si (Or.inr (Or.inr ⟨rfl, Or.inr (Or.inr rfl)⟩)))
              have p24 : M8.1 24 = M7.1 24 := by rw [v6.1 24 (by decide), hMp, si_c (by decide), si_c (by decide)]
              have p23 : M8.1 23 = M7.1 23 := by rw [v6.1 23 (by decide), hMp, si_c (by decide), si_c (by decide)]
              have stp : St w (c + d) a Mp := by
                rw [hMp]
                exact ⟨by rw [si_ne (Or.inr (by decide))]; exact si_at, by rw [si_ne (Or.inr (by decide)), si_ne (Or.inr (by decide))]; exact u6.2.1.2.1, si_at⟩
              obtain ⟨w1, w2, w3, w4, w5⟩ := u6
              have gg : Got N S w c d a M M8 h2 := ⟨mq_t (mq_t (mq_t a6 w1) mp) (mf_q v6), st_mf stp v6, fun i hi => by rw [p24, w3 i (by omega), a9 i hi], fun i hi => by rw [p23, w4 i hi, a10], by rw [p23]; exact w5⟩
              rw [if_pos rfl, v1]
              refine ⟨h2, G3, rfl, gf_t a5 (gf_t f2 v5), Or.inr ⟨q3, r3, M8, d, v4, by omega, by omega, gg, fun i j X h1 h2 hX => ?_⟩⟩
              obtain ⟨i, rfl⟩ : ∃ k, i = k + 1 := ⟨i - 1, by omega⟩
              rw [run]
              refine u10 i j X (by omega) (by omega) (fun h j' g2 g3 => ?_)
              obtain ⟨h, rfl⟩ : ∃ k, h = k + 1 := ⟨h - 1, by omega⟩
              rw [hB]
              exact hX 1000 h j' (by omega) (by omega) (by omega)
            | false =>
              obtain ⟨M9, o1, o2, o3⟩ := t_failo htt6 (c := 1) (by decide) 0
              rcases o2.2.2.1 with ⟨s9, p9, _, ht⟩ | hx
              · exact absurd (ts_19 (m := 0) ht) o3
              · have hB : ∀ h j, eB (h + 1) (j + 1) M6 = some M9 := fun h j => by
                  rw [eB_no k1, eC_end u8 u9]
                  unfold b_X8_reads_124 b_X8_reads_145 b_X8_reads_151
                  rw [good_t hg6, lt_eq, if_pos rfl, u7, ob_some, if_pos rfl, o1, lt_eq, lt_eq, sets_x o3]
                  rfl
                rw [if_neg (by decide)]
                refine ⟨h2, _, rfl, gf_t a5 (gf_t f2 o2.1), Or.inl ⟨M9, hx, ?_, fun i j h1 h2 => ?_⟩⟩
                · exact mq_t (mq_t (mq_t a6 u6.1) (mq_s u4.2)) (mf_q o2.2.1)
                · obtain ⟨i, rfl⟩ : ∃ k, i = k + 1 := ⟨i - 1, by omega⟩
                  rw [run]
                  refine u10 i j M9 (by omega) (by omega) (fun h j' g2 g3 => ?_)
                  obtain ⟨h, rfl⟩ : ∃ k, h = k + 1 := ⟨h - 1, by omega⟩
                  obtain ⟨j', rfl⟩ : ∃ k, j' = k + 1 := ⟨j' - 1, by omega⟩
                  exact hB h j'
      · have a6 : a = 6 := by omega
        subst a6
        obtain ⟨M9, o1, o2, o3⟩ := t_failo htt (c := 3) (by decide) 0
        rcases o2.2.2.1 with ⟨s9, p9, _, ht⟩ | hx
        · exact absurd (ts_19 (m := 0) ht) o3
        · rw [if_neg (by decide)]
          refine ⟨0, _, rfl, o2.1, Or.inl ⟨M9, hx, mf_q o2.2.1, fun i j h1 h2 => ?_⟩⟩
          obtain ⟨i, rfl⟩ : ∃ k, i = k + 1 := ⟨i - 1, by omega⟩
          have gi : f_X8_goesIn 1000 M y = some (false, M9) := by
            unfold f_X8_goesIn
            rw [st.2.2, if_pos (show nI 6 = 6 from rfl), o1]
            rfl
          rw [eA_in hy, gi, ob_some, if_neg (c := ((false, M9).fst = true)) Bool.false_ne_true]
          exact eD_x o3
    unfold fb_X2_factor
    rw [x1, ob_some]
    cases b with
    | true =>
      rw [if_pos rfl]
      exact inn 23 true (Or.inl ⟨x2, rfl⟩) (word_lt lw_not h x2) ⟨fun _ => rfl, fun _ => rfl⟩
    | false =>
      rw [if_neg (by decide), s2, lt_eq]
      cases b40 with
      | true =>
        rw [if_pos rfl]
        exact inn 1 false (Or.inr ⟨x2, s1, rfl⟩) (kd_lt h (by rw [s4 rfl]; decide)) ⟨fun q => (by cases q), fun q => absurd q (by decide)⟩
      | false =>
        obtain ⟨held, G', z1, z2⟩ := t_cmp (R := R) h st he hb hN g
        rw [if_neg (by decide), z1]
        rcases z2 with ⟨q1, M', q2, q3, q4⟩ | ⟨s', p', M', q1, q2, q3, q4, q5⟩
        · refine ⟨held, G', rfl, q1, Or.inl ⟨M', q3, q4, fun i j h1 h2 => ?_⟩⟩
          obtain ⟨i, rfl⟩ : ∃ k, i = k + 1 := ⟨i - 1, by omega⟩
          rw [eA_cmp x2 s1, q2, ob_some]
          exact eD_x (tx_19 q3)
        · have hse' : s' ≤ e := by have := q3.1.2.2.2; omega
          refine ⟨held, G', rfl, q2, Or.inr ⟨s', p', M', 3, q3, by omega, by omega, q5, fun i j X h1 h2 hX => ?_⟩⟩
          obtain ⟨i, rfl⟩ : ∃ k, i = k + 1 := ⟨i - 1, by omega⟩
          rw [eA_cmp x2 s1, q1, ob_some]
          show eD j M' = some X
          unfold eD
          rw [good_t (ts_19 (m := 0) q3), if_pos rfl]
          exact hX 1000 1000 j (by omega) (by omega) (by omega)
end FAC
