/-! FORECASTS 3: bestSlant -/
noncomputable def bsS (N : Nat → Int32) (S : Nat → Int64) (t : Nat) : Nat → Int32 × Int32
  | 0 => (-1, -1)
  | i + 1 => if (settleS (va_up N (18 + 7 * t + 3) (nI (50 * (i + 1)))) S).1 = 0 then (if columnS (settleS (va_up N (18 + 7 * t + 3) (nI (50 * (i + 1)))) S).2.1 (settleS (va_up N (18 + 7 * t + 3) (nI (50 * (i + 1)))) S).2.2 t < (bsS N S t i).2 then bsS N S t i else (nI (50 * (i + 1)), columnS (settleS (va_up N (18 + 7 * t + 3) (nI (50 * (i + 1)))) S).2.1 (settleS (va_up N (18 + 7 * t + 3) (nI (50 * (i + 1)))) S).2.2 t)) else bsS N S t i
theorem bs_ex (N : Nat → Int32) (S : Nat → Int64) (t : Nat) : ∃ (w : Nat → Int32 × Int32) (y : Nat → BS), w 0 = (-1, -1) ∧ (∀ i, y i = settleS (va_up N (18 + 7 * t + 3) (nI (50 * (i + 1)))) S) ∧ ∀ i, w (i + 1) = if (y i).1 = 0 then (if columnS (y i).2.1 (y i).2.2 t < (w i).2 then w i else (nI (50 * (i + 1)), columnS (y i).2.1 (y i).2.2 t)) else w i := ⟨bsS N S t, fun i => settleS (va_up N (18 + 7 * t + 3) (nI (50 * (i + 1)))) S, by rw [bsS], fun i => rfl, fun i => by rw [bsS]⟩
theorem slant_wf {N : Nat → Int32} (h : wfN N) {t i : Nat} (ht : t < 12) (hi : i < 20) : wfN (va_up N (18 + 7 * t + 3) (nI (50 * (i + 1)))) :=
  wf_cell h (by omega) (fun e => by omega) (fun q hq e => by omega) (fun j hj => ⟨by omega, by omega, by omega⟩) (fun u hu => ⟨by omega, by omega, by omega, fun _ => by unfold bd; rw [nI_toInt (by omega)]; omega, by omega, by omega, by omega⟩)
theorem slant_rel {R : RowS} {N : Nat → Int32} {S : Nat → Int64} (h : wfN N) (r : Rel R N S) {t : Nat} (ht : t < 12) {v : Int32} : Rel (si R (t + 5) 3 v) (va_up N (18 + 7 * t + 3) v) S :=
  rel_cell h r (by omega) (fun k hk => by omega) (fun q hq => by omega) (fun j hj k hk => by omega) (fun t ht k hk => by omega)
def BFr (M' M : RowS) : Prop := (∀ c, c ≠ 3 → M'.1 c = M.1 c) ∧ (∀ c, c ≠ 7 → M'.2 c = M.2 c)
section BEST
variable {P : RowsS} {G : GlbS} {M : RowS}
theorem inv_bf {P' : RowsS} {M' : RowS} (I : Inv P G M) (b : BFr M' M) (hP : ∀ q, q ≠ 1 → P' q = P q) : Inv P' G M' := by
  obtain ⟨b1, b2⟩ := b
  obtain ⟨g, t1, t2, t3, t4, t5⟩ := I
  refine ⟨?_, hist_fr t1 (fun r hr => hP r (by omega)) rfl (b1 4 (by decide)) (b2 8 (by decide)) (by rw [b1 0 (by decide)]), snap_fr t2 (hP 2 (by decide)) rfl (b1 2 (by decide)) (b2 6 (by decide)) (by rw [b1 0 (by decide)]), buf_fr t3 rfl rfl (b1 11 (by decide)) (by rw [b1 0 (by decide)]), by rw [b1 0 (by decide)]; exact t4, fmt_fr t5 rfl rfl (b1 21 (by decide)) (by rw [b1 0 (by decide)])⟩
  rw [hP 0 (by decide), b1 1 (by decide), b2 5 (by decide)]
  exact g
theorem c_best {N : Nat → Int32} {S : Nat → Int64} (g : Good (P 0) N S) {t : Nat} (ht : t < cnt N) {w : Nat → Int32 × Int32} {y : Nat → BS} (w0 : w 0 = (-1, -1)) (hy : ∀ i, y i = settleS (va_up N (18 + 7 * t + 3) (nI (50 * (i + 1)))) S) (hw : ∀ i, w (i + 1) = if (y i).1 = 0 then (if columnS (y i).2.1 (y i).2.2 t < (w i).2 then w i else (nI (50 * (i + 1)), columnS (y i).2.1 (y i).2.2 t)) else w i) : ∃ P', wloop (fun s : Int32 × Int32 × Int32 × RowsS => l_X7_bestSlant_29 200 (nI t) s.1 s.2.1 s.2.2.1 s.2.2.2) 200 (-1, -1, 50, P) = some ((w 20).1, P') ∧ ∀ q, q ≠ 1 → P' q = P q := by
  have hc := cnt_le g.1
  have key := wl_rel (f := fun s : Int32 × Int32 × Int32 × RowsS => l_X7_bestSlant_29 200 (nI t) s.1 s.2.1 s.2.2.1 s.2.2.2) (fun i s => s.1 = (w i).1 ∧ s.2.1 = (w i).2 ∧ s.2.2.1 = nI (50 * (i + 1)) ∧ ∀ q, q ≠ 1 → s.2.2.2 q = P q) (fun p => p.1 = (w 20).1 ∧ ∀ q, q ≠ 1 → p.2 q = P q) 20 (fun i s hi hs => by
    obtain ⟨z2, z3, z4, Pz⟩ := s
    obtain ⟨g1, g2, g3, g4⟩ := hs
    simp only at g1 g2 g3 g4
    subst g1 g2 g3
    have e0 : Pz 0 = P 0 := g4 0 (by decide)
    obtain ⟨R1, k1, k2⟩ := c_copy (R := Pz 1) (R2 := Pz 0) (c := cnt N) (n := 200) (by omega) hc (by rw [e0, g.2.2.2.2.1.2.2.1, n2 g.1])
    rw [e0] at k2
    obtain ⟨R2, s1, s2⟩ := settle_good (slant_wf g.1 (t := t) (by omega) hi) (wfS_cell g.2.1 (by omega)) (zb_cell g.2.2.1 (by omega)) (slant_rel g.1 (rel_same k2 g.2.2.2.2.1) (by omega) (v := nI (50 * (i + 1))))
    obtain ⟨c, f1, f2, f3, f4, f5, -⟩ := settle_facts (slant_wf g.1 (t := t) (by omega) hi) (wfS_cell g.2.1 (v := nI (50 * (i + 1))) (i := 18 + 7 * t + 3) (by omega))
    rw [← hy i] at s1 s2 f4
    have hty : t < cnt (y i).2.1 := by rw [st_cnt f4, cnt_up (by omega)]; exact ht
    have e50 : nI (50 * (i + 1)) + 50 = nI (50 * (i + 1 + 1)) := by rw [show (50 : Int32) = nI 50 from rfl, nI_add]; congr 1
    refine ⟨((w (i + 1)).1, (w (i + 1)).2, nI (50 * (i + 1 + 1)), va_up Pz 1 R2), ?_, rfl, rfl, rfl, fun q hq => (va_up_ne Pz R2 hq).trans (g4 q hq)⟩
    show l_X7_bestSlant_29 200 (nI t) (w i).1 (w i).2 (nI (50 * (i + 1))) Pz = _
    unfold l_X7_bestSlant_29 b_X7_bestSlant_101
    rw [show (1000 : Int32) = nI 1000 from rfl, if_neg (by rw [nI_ltI (by omega) (by omega)]; omega), k1, ob_some]
    simp only [lt, c_tubeAt (show t < 12 by omega), va_up_self, s1, ob_some, up_up, c_column s2 hty, e50]
    rw [hw i]
    by_cases hz : (y i).1 = 0
    · rw [if_pos hz, if_pos hz]
      by_cases hq : columnS (y i).2.1 (y i).2.2 t < (w i).2
      · rw [if_pos hq, if_pos hq]
      · rw [if_neg hq, if_neg hq]
    · rw [if_neg hz, if_neg hz]) (fun s hs => by
    obtain ⟨z2, z3, z4, Pz⟩ := s
    obtain ⟨g1, g2, g3, g4⟩ := hs
    simp only at g1 g2 g3 g4
    subst g1 g2 g3
    refine ⟨((w 20).1, Pz), ?_, rfl, g4⟩
    show l_X7_bestSlant_29 200 (nI t) (w 20).1 (w 20).2 (nI (50 * (20 + 1))) Pz = _
    unfold l_X7_bestSlant_29
    rw [if_pos (by decide)]) 20 0 200 (-1, -1, 50, P) (by omega) (by omega) ⟨by rw [w0], by rw [w0], rfl, fun _ _ => rfl⟩
  obtain ⟨⟨z, P'⟩, a1, a2, a3⟩ := key
  simp only at a2
  subst a2
  exact ⟨P', a1, a3⟩
theorem m_best (I : Inv P G M) {t : Nat} (ht : t < cnt (M.1 1)) (h6 : tg (M.1 1) t 6 = 0) {w : Nat → Int32 × Int32} {y : Nat → BS} (w0 : w 0 = (-1, -1)) (hy : ∀ i, y i = settleS (va_up (M.1 1) (18 + 7 * t + 3) (nI (50 * (i + 1)))) (M.2 5)) (hw : ∀ i, w (i + 1) = if (y i).1 = 0 then (if columnS (y i).2.1 (y i).2.2 t < (w i).2 then w i else (nI (50 * (i + 1)), columnS (y i).2.1 (y i).2.2 t)) else w i) : ∃ M', wloop (fun s : Int32 × Int32 × Int32 × RowS => l_X8_bestSlant_28 200 (nI t) s.1 s.2.1 s.2.2.1 s.2.2.2) 200 (-1, -1, 50, M) = some ((w 20).1, M') ∧ BFr M' M := by
  have g := I.1
  have h := g.1
  have hc := cnt_le h
  have key := wl_rel (f := fun s : Int32 × Int32 × Int32 × RowS => l_X8_bestSlant_28 200 (nI t) s.1 s.2.1 s.2.2.1 s.2.2.2) (fun i s => s.1 = (w i).1 ∧ s.2.1 = (w i).2 ∧ s.2.2.1 = nI (50 * (i + 1)) ∧ BFr s.2.2.2 M) (fun p => p.1 = (w 20).1 ∧ BFr p.2 M) 20 (fun i s hi hs => by
    obtain ⟨z2, z3, z4, M1⟩ := s
    obtain ⟨g1, g2, g3, g4⟩ := hs
    simp only at g1 g2 g3 g4
    subst g1 g2 g3
    have e1 : M1.1 1 = M.1 1 := g4.1 1 (by decide)
    have e5 : M1.2 5 = M.2 5 := g4.2 5 (by decide)
    obtain ⟨A, a1, a2⟩ := aside_ok M1
    have ea1 : A.1 1 = M.1 1 := (a2.1 1 (by decide)).trans e1
    have ea5 : A.2 5 = M.2 5 := (a2.2.1 5 (by decide)).trans e5
    have wf := slant_wf h (t := t) (by omega) hi
    have ws := wfS_cell g.2.1 (v := nI (50 * (i + 1))) (i := 18 + 7 * t + 3) (by omega)
    obtain ⟨c, f1, f2, f3, f4, f5, f6, f7, f8⟩ := settle_facts wf ws
    have ms := m_settle (M := A) wf ws (n := 200) (by omega)
    have zz := zb_set (zb_cell g.2.2.1 (show 18 + 7 * t + 3 < 102 by omega)) f4 f7
    rw [← hy i] at ms f2 f4 f5 f6 zz
    have mb := back_ok (A := A) (N := M.1 1) (S := M.2 5) (N' := (y i).2.1) (S' := (y i).2.2) (fun k hk => by rw [a2.2.2.1 k hk, e1]) (fun k hk => by rw [a2.2.2.2 k hk, e5]) g.2.2.1 zz
    have hty : t < cnt (y i).2.1 := by rw [st_cnt f4, cnt_up (by omega)]; exact ht
    have e50 : nI (50 * (i + 1)) + 50 = nI (50 * (i + 1 + 1)) := by rw [show (50 : Int32) = nI 50 from rfl, nI_add]; congr 1
    have hcol := column_int f5 f6 hty
    have hcm := m_column (M := mk A (y i).2.1 (y i).2.2) (t := t) (by rw [mk_1]; exact f5) (by rw [mk_1, mk_2]; exact f6) (by rw [mk_1]; exact hty) (n := 200) (by omega)
    rw [mk_1, mk_2] at hcm
    have c3 : f_X8_cell (nI t) 3 = nI (18 + 7 * t + 3) := m_cell t 3
    have bf : BFr (mk A (M.1 1) (M.2 5)) M := by
      refine ⟨fun d hd => ?_, fun d hd => ?_⟩
      · by_cases q : d = 1
        · subst q; exact mk_1
        · rw [mk_1n q, a2.1 d hd, g4.1 d hd]
      · by_cases q : d = 5
        · subst q; exact mk_2 (N := M.1 1)
        · rw [mk_2n (N := M.1 1) q, a2.2.1 d hd, g4.2 d hd]
    refine ⟨((w (i + 1)).1, (w (i + 1)).2, nI (50 * (i + 1 + 1)), mk A (M.1 1) (M.2 5)), ?_, rfl, rfl, rfl, bf⟩
    show l_X8_bestSlant_28 200 (nI t) (w i).1 (w i).2 (nI (50 * (i + 1))) M1 = _
    unfold l_X8_bestSlant_28 b_X8_bestSlant_76 b_X8_bestSlant_103
    rw [show (1000 : Int32) = nI 1000 from rfl, if_neg (by rw [nI_ltI (by omega) (by omega)]; omega), m_whole (by omega), e1, if_pos h6, ob_some, if_pos rfl, a1, ob_some, lt_eq, c3, lt_eq, if_pos (by rw [nI_toInt (by omega)]; omega), nI_clamp (by omega), si_mk, ea1, ea5, lt_eq, ms, ob_some, lt_eq]
    simp only [hcm, mb, ob_some, lt, e50]
    rw [hw i]
    have hle : (y i).1 ≤ 0 ↔ (y i).1 = 0 := by rw [f2]; exact nI_le0 f1
    by_cases hz : (y i).1 = 0
    · rw [if_pos (hle.mpr hz), if_pos hz]
      have hn : ¬ columnS (y i).2.1 (y i).2.2 t = -1 := fun q => by
        have := congrArg Int32.toInt q
        rw [show (-1 : Int32).toInt = -1 from rfl] at this
        omega
      rw [if_neg hn]
      by_cases hq : columnS (y i).2.1 (y i).2.2 t < (w i).2
      · rw [if_pos hq, if_neg (by rw [i32_le]; rw [i32_lt] at hq; omega)]
      · rw [if_neg hq, if_pos (by rw [i32_le]; rw [i32_lt] at hq; omega)]
    · rw [if_neg (fun q => hz (hle.mp q)), if_neg hz]
      first | rfl | (rw [if_pos rfl]) | (rw [if_pos trivial])) (fun s hs => by
    obtain ⟨z2, z3, z4, M1⟩ := s
    obtain ⟨g1, g2, g3, g4⟩ := hs
    simp only at g1 g2 g3 g4
    subst g1 g2 g3
    refine ⟨((w 20).1, M1), ?_, rfl, g4⟩
    show l_X8_bestSlant_28 200 (nI t) (w 20).1 (w 20).2 (nI (50 * (20 + 1))) M1 = _
    unfold l_X8_bestSlant_28
    rw [if_pos (by decide)]) 20 0 200 (-1, -1, 50, M) (by omega) (by omega) ⟨by rw [w0], by rw [w0], rfl, fun _ _ => rfl, fun _ _ => rfl⟩
  obtain ⟨⟨z, M'⟩, a1, a2, a3⟩ := key
  simp only at a2
  subst a2
  exact ⟨M', a1, a3⟩
theorem ok_bestSlant (I : Inv P G M) (a1 : Int32) : OK_bestSlant Inv P G M a1 := by
  unfold OK_bestSlant f_X7_bestSlant t_X7_bestSlant f_X8_bestSlant
  have I0 : Inv P G (si M 0 0 0) := I
  have t0 : (si M 0 0 0).1 0 0 = 0 := si_at
  simp only [lt]
  generalize si M 0 0 0 = M0 at I0 t0 ⊢
  have g := I0.1
  have h := g.1
  rcases tube_cases (G := G) g.1 g.2.2.2.2.1.2.2.1 a1 with ⟨t, p1, p2, p3, p4, p5, p6⟩ | ⟨p4, p5, p6⟩
  · left
    subst p3
    simp only [p4, p6, ob_some, b2i_t, fails_t t0, ff_t, c_tubeAt (R := P 0) p2, c_tg g p1 (show 6 < 7 by decide)]
    by_cases h6 : tg (M0.1 1) t 6 = 0
    · obtain ⟨w, y, w0, hy, hw⟩ := bs_ex (M0.1 1) (M0.2 5) t
      obtain ⟨P', c1, c2⟩ := c_best g p1 w0 hy hw
      obtain ⟨M', m1, m2⟩ := m_best I0 p1 h6 w0 hy hw
      refine ⟨200, (w 20).1, P', 200, (w 20).1, M', ?_, ?_, ?_, rfl, inv_bf I0 m2 c2⟩
      · rw [if_pos h6, c1]
        rfl
      · rw [m1]
        rfl
      · show M'.1 0 0 = 0
        rw [m2.1 0 (by decide)]; exact t0
    · refine ⟨200, -1, P, 200, -1, M0, if_neg h6, ?_, t0, rfl, I0⟩
      have e : wloop (fun s : Int32 × Int32 × Int32 × RowS => l_X8_bestSlant_28 200 (nI t) s.1 s.2.1 s.2.2.1 s.2.2.2) 200 (-1, -1, 50, M0) = some (-1, M0) := by
        refine wl_en (n := 199) ?_
        show l_X8_bestSlant_28 200 (nI t) (-1) (-1) 50 M0 = _
        unfold l_X8_bestSlant_28
        rw [if_neg (by decide), m_whole p2, if_neg h6, ob_some, if_neg Bool.false_ne_true]
      rw [e]
      rfl
  · right
    simp only [p5, p6, ob_some, b2i_f, fails_f t0 n1_0, tt_t, if_true, if_false, z1_t, true_and]
    exact ⟨100, _, _, rfl, thr0 1, I0⟩
end BEST
