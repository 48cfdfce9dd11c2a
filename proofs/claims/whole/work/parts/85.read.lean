/-! LOAD 3: a text is read -/
section READ
variable {e m : Nat} {G : GlbS} {M : RowS} {R : RowS}
theorem rw_mf {M M' : RowS} (w : RWf R M) (h : MF M M') : RWf R M' := by
  unfold RWf
  rw [h.1 1 (by decide), h.2.1 5 (by decide)]
  exact w
theorem ro_pre {G1 G' : GlbS} {M1 M' : RowS} {R' : RowS} (a : TO e m G M G1 M1) (b : RO e m G1 M1 G' M' R') : RO e m G M G' M' R' :=
  ⟨gf_t a.1 b.1, mg_t (mf_g a.2.1) b.2.1, b.2.2.1, b.2.2.2.1, fun q => ⟨a.2.2.2 (b.2.2.2.2 q).1, (b.2.2.2.2 q).2⟩⟩
theorem px_x {s p : Nat} (h : CP e s p G) (h7 : ¬ G 3 7 = 0) (w : RWf R M) : ∃ R' G', PX 1000 R G = some (R', G') ∧ CX e G G' := by
  have hp2 := (hi_pt w.1).2
  obtain ⟨v1, G1, a1, a2, a3⟩ := cx_takeNumber h h7 (lo := 0) (hi := R.1 0 0 - 1) (by rw [w.2.1.1]; exact hp2)
  obtain ⟨s1, p1, h1⟩ := a2.2.2.2
  obtain ⟨v2, G2, b1, b2, b3⟩ := cx_takeNumber h1 (by rw [a2.2.1]; exact h7) (lo := 0) (hi := 99999) (by decide)
  unfold PX
  simp only [a1, ob_some, lt, b1]
  exact ⟨_, G2, rfl, cx_t a2 b2⟩
theorem cl_one {s p : Nat} (h : TS e s p G M) (hm : m ≤ s) (hk : ¬ M.1 0 16 = 0) (w : RWf R M) (z : ZM M) : ∃ R' G' M2, f_X4_readClause 1000 R G = some (R', G') ∧ l_X8_readsAll_43 1000 M = b_X8_readsAll_114 1000 M2 ∧ RO e m G M G' M2 R' := by
  have hg := ts_19 (m := 0) h
  have htt : TT e m G M := Or.inl ⟨s, p, hm, h⟩
  obtain ⟨b2, x1, x2, _⟩ := t_word lw_leg htt
  obtain ⟨b3, y1, y2, _⟩ := t_word lw_tube htt
  have x2 := x2 hg
  have y2 := y2 hg
  unfold f_X4_readClause l_X8_readsAll_43
  rw [good_t hg, lt_eq, if_pos rfl, if_neg hk, y2, lt_eq, x1, ob_some]
  cases b3 with
  | true =>
    have hb2 : b2 = false := by
      cases b2 with
      | false => rfl
      | true =>
        have h1 := ((m_word lw_leg h).mp x2).2.1
        have h2 := ((m_word lw_tube h).mp y2).2.1
        omega
    subst hb2
    obtain ⟨R', G', M2, t1, t2, t3⟩ := cl_tube h hm w z
    rw [if_neg (by decide), y1, ob_some, if_pos rfl, if_pos rfl, t1, t2]
    exact ⟨R', G', M2, rfl, rfl, t3⟩
  | false =>
    obtain ⟨b, c, M', p1, p2, p3, p4, p5, p6⟩ := t_pass lw_leg htt
    rw [x1] at p1
    cases Option.some.inj p1
    have hcb := p3 hg
    subst hcb
    rw [if_neg (c := (false = true)) (by decide), p2, ob_some, lt_eq]
    cases c with
    | true =>
      obtain ⟨G1, a1, a2⟩ := p5 rfl
      obtain ⟨R', G', M2, t1, t2, t3⟩ := cl_leg a1 a2.2.2.1 (rw_mf w a2.2.1) (zm_mf z a2.2.1)
      rw [if_pos rfl, if_pos rfl, t1, t2]
      exact ⟨R', G', M2, rfl, rfl, ro_pre a2 t3⟩
    | false =>
      have e7 := p4 rfl
      subst e7
      obtain ⟨G1, c, M1, a1, a2, a3⟩ := t_take lw_pressure htt
      rw [if_neg (by decide), y1, ob_some, if_neg (by decide), a1, ob_some, lt_eq, if_neg (c := ((false, M').fst = true)) Bool.false_ne_true, a2, ob_some, lt_eq]
      have px : ∀ {R1 : RowS} {G2 : GlbS}, PX 1000 R G1 = some (R1, G2) → (ob (f_X5_takeNumber 1000 G1 0 ((R.1 0 0) - 1)) fun x7 => lt (x7.2) fun Gv8 => lt (x7.1) fun x9 => ob (f_X5_takeNumber 1000 Gv8 0 99999) fun x10 => lt (x10.2) fun Gv11 => lt (f_X3_press R x9 x10.1) fun x12 => lt (x12) fun Rv13 => some (Rv13, Gv11)) = some (R1, G2) := fun q => q
      rcases a3 with ⟨k1, k2⟩ | ⟨k1, M2, k2, k3, k4⟩
      · subst k1
        obtain ⟨R', G', M2, t1, t2, t3⟩ := cl_press k2.2.2.1 (rw_mf w k2.2.1) (zm_mf z k2.2.1)
        rw [px t1, if_pos rfl, t2]
        exact ⟨R', G', M2, rfl, rfl, ro_pre k2 t3⟩
      · subst k1
        rcases k3.2.2.1 with ⟨s', p', _, hts⟩ | hx
        · exact absurd (ts_19 (m := 0) hts) k4
        · obtain ⟨s', p', hcp⟩ := hx.1
          obtain ⟨R', G', t1, t2⟩ := px_x hcp hx.2.1 w
          rw [px t1, if_neg (c := ((false, M1).fst = true)) Bool.false_ne_true, k2]
          exact ⟨R', G', M2, rfl, rfl, gf_t k3.1 t2.1, mf_g k3.2.1, Or.inr (tx_cx hx t2), zm_mf z k3.2.1, fun q => absurd q k4⟩
def RD (e : Nat) (G : GlbS) (M : RowS) (c : Option (RowS × GlbS)) (d : Option RowS) : Prop :=
  ∃ R' G' M', c = some (R', G') ∧ d = some M' ∧ GF G G' ∧ MG M M' ∧ TT e 0 G' M' ∧ ZM M' ∧ (M'.1 0 19 = 0 → RWf R' M')
theorem rd_loop (he : e ≤ 600) : ∀ d m i nC nM (R : RowS) (G : GlbS) (M : RowS), m + d = e + 1 → i ≤ m → d < nC → d < nM → TT e m G M → (M.1 0 19 = 0 → RWf R M) → ZM M → RD e G M (wloop (fun t : Int32 × RowS × GlbS => l_X4_read_51 1000 t.1 t.2.1 t.2.2) nC (nI i, R, G)) (wloop (fun t : RowS => l_X8_readsAll_43 1000 t) nM M) := by
  have stop : ∀ (m i nC nM : Nat) (R : RowS) (G : GlbS) (M : RowS), 0 < nC → 0 < nM → TT e m G M → (M.1 0 19 = 0 → RWf R M) → ZM M → f_X5_goesOn G = false → (M.1 0 19 = 0 → M.1 0 16 = 0) → RD e G M (wloop (fun t : Int32 × RowS × GlbS => l_X4_read_51 1000 t.1 t.2.1 t.2.2) nC (nI i, R, G)) (wloop (fun t : RowS => l_X8_readsAll_43 1000 t) nM M) := by
    intro m i nC nM R G M h1 h2 htt w z s1 s2
    obtain ⟨nC, rfl⟩ : ∃ k, nC = k + 1 := ⟨nC - 1, by omega⟩
    obtain ⟨nM, rfl⟩ : ∃ k, nM = k + 1 := ⟨nM - 1, by omega⟩
    refine ⟨R, G, M, wl_en (f := fun t : Int32 × RowS × GlbS => l_X4_read_51 1000 t.1 t.2.1 t.2.2) (s := (nI i, R, G)) ?_, wl_en (f := fun t : RowS => l_X8_readsAll_43 1000 t) (s := M) ?_, gf_r, mf_g mf_r, tt_le htt (by omega), z, w⟩
    · show l_X4_read_51 1000 (nI i) R G = _
      unfold l_X4_read_51
      rw [s1, lt_eq]
      by_cases c : 600 ≤ nI i
      · rw [if_pos c]
      · rw [if_neg c, if_neg (by decide)]
    · show l_X8_readsAll_43 1000 M = _
      unfold l_X8_readsAll_43
      by_cases hg : M.1 0 19 = 0
      · rw [good_t hg, lt_eq, if_pos rfl, if_pos (s2 hg)]
      · rw [good_f hg, lt_eq, if_neg (by decide)]
  have go_x : ∀ {G : GlbS} {M : RowS}, TX e G M → f_X5_goesOn G = false := fun h => by
    unfold f_X5_goesOn
    rw [if_neg h.2.1]
  intro d
  induction d with
  | zero =>
    intro m i nC nM R G M hd hi h1 h2 htt w z
    rcases htt with ⟨s, p, hm, h⟩ | h
    · have := h.1.2.2.2; omega
    · exact stop m i nC nM R G M (by omega) (by omega) (Or.inr h) w z (go_x h) (fun q => absurd q (tx_19 h))
  | succ d ih =>
    intro m i nC nM R G M hd hi h1 h2 htt w z
    rcases htt with ⟨s, p, hm, h⟩ | h
    · have hg := ts_19 (m := 0) h
      have hgo : ∀ v, G 3 5 = v → f_X5_goesOn G = if v = 0 then false else true := fun v hv => by
        unfold f_X5_goesOn
        rw [h.2.1.1, if_pos rfl, hv]
      have on : ∀ v, G 3 5 = v → ¬ v = 0 → ¬ M.1 0 16 = 0 → s < p → RD e G M (wloop (fun t : Int32 × RowS × GlbS => l_X4_read_51 1000 t.1 t.2.1 t.2.2) nC (nI i, R, G)) (wloop (fun t : RowS => l_X8_readsAll_43 1000 t) nM M) := by
        intro v hv hv0 h16 hsp
        have hpe : p ≤ e := h.1.2.2.2.2.1
        have he := h.1.2.2.2.2.2
        obtain ⟨nC, rfl⟩ : ∃ k, nC = k + 1 := ⟨nC - 1, by omega⟩
        obtain ⟨nM, rfl⟩ : ∃ k, nM = k + 1 := ⟨nM - 1, by omega⟩
        obtain ⟨R', G', M2, t1, t2, t3⟩ := cl_one h hm h16 (w hg) z
        obtain ⟨G3, M3, u1, u2, u3⟩ := t_must (a := 59) (by unfold bd; decide) t3.2.2.1
        have sc : l_X4_read_51 1000 (nI i) R G = some (.inl (nI (i + 1), R', G3)) := by
          unfold l_X4_read_51
          rw [show (600 : Int32) = nI 600 from rfl, if_neg (by rw [nI_leI (by omega) (by omega)]; omega), hgo v hv, if_neg hv0, lt_eq, if_pos rfl, t1]
          simp only [ob_some, lt, u1, nI_1]
        have sm : l_X8_readsAll_43 1000 M = some (.inl M3) := by
          rw [t2]
          unfold b_X8_readsAll_114
          rw [u2]
          rfl
        have w3 : M3.1 0 19 = 0 → RWf R' M3 := fun q => rw_mf (t3.2.2.2.2 (u3.2.2.2 q)).2 u3.2.1
        obtain ⟨Rz, Gz', Mz', r1, r2, r3, r4, r5, r6, r7⟩ := ih (m + 1) (i + 1) nC nM R' G3 M3 (by omega) (by omega) (by omega) (by omega) u3.2.2.1 w3 (zm_mf t3.2.2.2.1 u3.2.1)
        exact ⟨Rz, Gz', Mz', (wl_st (f := fun t : Int32 × RowS × GlbS => l_X4_read_51 1000 t.1 t.2.1 t.2.2) (s := (nI i, R, G)) sc).trans r1, (wl_st (f := fun t : RowS => l_X8_readsAll_43 1000 t) (s := M) sm).trans r2, gf_t (gf_t t3.1 u3.1) r3, mg_t (mg_t t3.2.1 (mf_g u3.2.1)) r4, r5, r6, r7⟩
      rcases h.2.2.2.2 with ⟨k1, k2, k3⟩ | ⟨k1, k2, k3, k4, k5⟩ | ⟨k1, k2, k3, k4⟩ | ⟨k1, k2, k3⟩
      · exact stop m i nC nM R G M (by omega) (by omega) (Or.inl ⟨s, p, hm, h⟩) w z (by rw [hgo 0 k1, if_pos rfl]) (fun _ => k2)
      · exact on 1 k1 (by decide) (by rw [k2]; decide) k3
      · exact on 2 k1 (by decide) (by rw [k2]; decide) k3
      · exact on 3 k1 (by decide) (by rw [k2]; decide) k3
    · exact stop m i nC nM R G M (by omega) (by omega) (Or.inr h) w z (go_x h) (fun q => absurd q (tx_19 h))
theorem read_ok (he : e ≤ 600) (h : TT e 0 G M) (z : ZM M) : RD e G M (f_X4_read 1000 R G) (f_X8_readsAll 1000 M) := by
  obtain ⟨G1, c, M1, a1, a2, a3⟩ := t_take lw_gauges h
  unfold f_X4_read f_X8_readsAll
  rw [a1, a2, ob_some, ob_some, lt_eq, lt_eq]
  rcases a3 with ⟨k1, k2⟩ | ⟨k1, M2, k2, k3, k4⟩
  · subst k1
    obtain ⟨v1, w1, G2, M2, c1, d1, o1, b1, b1', q1⟩ := t_num (lo := 2) (hi := 8) (by decide) k2.2.2.1
    obtain ⟨v2, w2, G3, M3, c2, d2, o2, b2, b2', q2⟩ := t_num (lo := 0) (hi := 99999) (by decide) o1.2.2.1
    have oA := to_t k2 (to_t o1 o2)
    have zz := zm_mf z oA.2.1
    obtain ⟨R1, cl1, cl2, cl3⟩ := c_clear (R := R) (a := v1) (b := v2) (n := 1000) (by omega)
    have bg := m_begins (M := M3) zz w1 w2 (n := 1000) (by omega)
    have tb : TT e 0 G3 (mk M3 (begN w1 w2) Z0) := tt_mk oA.2.2.1
    obtain ⟨G4, M4, u1, u2, u3⟩ := t_must (a := 59) (by unfold bd; decide) tb
    have b1 : bd v1 2 8 := b1
    have b2 : bd v2 0 99999 := b2
    have w4 : M4.1 0 19 = 0 → RWf R1 M4 := fun q => by
      have g3 : M3.1 0 19 = 0 := u3.2.2.2 q
      have g2 := o2.2.2.2 g3
      refine rw_mf (M := mk M3 (begN w1 w2) Z0) ?_ u3.2.1
      unfold RWf
      rw [mk_1, mk_2, ← q1 g2, ← q2 g3]
      exact ⟨beg_wf b1 b2, cl2, rfl⟩
    have z4 : ZM M4 := zm_mf (M := mk M3 (begN w1 w2) Z0) (by unfold ZM; rw [mk_1, mk_2]; exact beg_zb) u3.2.1
    rw [if_pos rfl, c1, ob_some, lt_eq, lt_eq, c2, ob_some, lt_eq, lt_eq, cl1, ob_some, lt_eq, u1, ob_some, lt_eq, d1, ob_some, lt_eq, lt_eq, d2, ob_some, lt_eq, bg, ob_some, lt_eq, u2, ob_some, lt_eq]
    obtain ⟨Rz, Gz', Mz', r1, r2, r3, r4, r5, r6, r7⟩ := rd_loop he (e + 1) 0 0 1000 1000 R1 G4 M4 (by omega) (by omega) (by omega) (by omega) (tt_le u3.2.2.1 (by omega)) w4 z4
    have r1 : wloop (fun t : Int32 × RowS × GlbS => l_X4_read_51 1000 t.1 t.2.1 t.2.2) 1000 (0, R1, G4) = some (Rz, Gz') := r1
    rw [r1, r2]
    exact ⟨Rz, Gz', Mz', rfl, rfl, gf_t (gf_t oA.1 u3.1) r3, mg_t (mg_t (mg_t (mf_g oA.2.1) mg_mk) (mf_g u3.2.1)) r4, r5, r6, r7⟩
  · subst k1
    rcases k3.2.2.1 with ⟨s', p', _, hts⟩ | hx
    · exact absurd (ts_19 (m := 0) hts) k4
    · obtain ⟨s', p', hcp⟩ := hx.1
      obtain ⟨v1, G2, c1, c2, c3⟩ := cx_takeNumber hcp hx.2.1 (lo := 2) (hi := 8) (by decide)
      have hx2 := tx_cx hx c2
      obtain ⟨s2, p2, hcp2⟩ := hx2.1
      obtain ⟨v2, G3, d1, d2, d3⟩ := cx_takeNumber hcp2 hx2.2.1 (lo := 0) (hi := 99999) (by decide)
      have hx3 := tx_cx hx2 d2
      obtain ⟨s3, p3, hcp3⟩ := hx3.1
      obtain ⟨R1, cl1, cl2, cl3⟩ := c_clear (R := R) (a := v1) (b := v2) (n := 1000) (by omega)
      obtain ⟨G4, u1, u2⟩ := cx_takeSign hcp3 hx3.2.1 59
      have hx4 := tx_cx hx3 u2
      rw [c1, ob_some, lt_eq, lt_eq, d1, ob_some, lt_eq, lt_eq, cl1, ob_some, lt_eq, u1, ob_some, lt_eq, if_neg (c := ((false, M1).fst = true)) Bool.false_ne_true, k2]
      have st : wloop (fun t : Int32 × RowS × GlbS => l_X4_read_51 1000 t.1 t.2.1 t.2.2) 1000 (0, R1, G4) = some (R1, G4) := by
        refine wl_en (n := 999) (f := fun t : Int32 × RowS × GlbS => l_X4_read_51 1000 t.1 t.2.1 t.2.2) (s := (0, R1, G4)) ?_
        show l_X4_read_51 1000 0 R1 G4 = _
        unfold l_X4_read_51 f_X5_goesOn
        rw [if_neg (by decide), if_neg hx4.2.1, lt_eq, if_neg (by decide)]
      rw [st]
      exact ⟨R1, G4, M2, rfl, rfl, gf_t k3.1 (gf_t c2.1 (gf_t d2.1 u2.1)), mf_g k3.2.1, Or.inr hx4, zm_mf z k3.2.1, fun q => absurd q k4⟩
end READ
