/-! FORECASTS 2: breaksIn, bestSlant -/
theorem held_eq (x : Int32) : jmax 0 (jmin 99999 x) = f_X8_held x := by
  have e0 : (0 : Int32).toInt = 0 := rfl
  have e9 : (99999 : Int32).toInt = 99999 := rfl
  unfold jmax jmin f_X8_held
  simp only [i32_lt, i32_le, e0, e9]
  by_cases h1 : x.toInt < 99999
  · rw [if_pos h1]
    by_cases h2 : 0 ≤ x.toInt
    · rw [if_pos h2, if_pos (show x.toInt ≤ 99999 by omega)]
      by_cases h3 : 0 < x.toInt
      · rw [if_pos h3]
      · rw [if_neg h3]; exact i32_eq (by rw [e0]; omega)
    · rw [if_neg h2, if_neg (by omega)]
  · rw [if_neg h1, if_pos (show (0 : Int) ≤ x.toInt by omega), e9, if_pos (by omega)]
    by_cases h3 : x.toInt ≤ 99999
    · rw [if_pos h3]; exact i32_eq (by rw [e9]; omega)
    · rw [if_neg h3]
theorem held_bd (x : Int32) : bd (f_X8_held x) 0 99999 := by
  have e0 : (0 : Int32).toInt = 0 := rfl
  have e9 : (99999 : Int32).toInt = 99999 := rfl
  unfold bd f_X8_held
  simp only [i32_le, e0, e9]
  by_cases h2 : 0 ≤ x.toInt
  · rw [if_pos h2]
    by_cases h3 : x.toInt ≤ 99999
    · rw [if_pos h3]; omega
    · rw [if_neg h3, e9]; omega
  · rw [if_neg h2, e0]; omega
noncomputable def bq (N : Nat → Int32) (S : Nat → Int64) (p : Nat) (s : Int32) : Nat → BS
  | 0 => (0, N, S)
  | k + 1 => settleS (va_up (bq N S p s k).2.1 (4 + p) (f_X8_held ((bq N S p s k).2.1 (4 + p) + s))) (bq N S p s k).2.2
theorem bq_ex (N : Nat → Int32) (S : Nat → Int64) (p : Nat) (s : Int32) : ∃ w : Nat → BS, w 0 = (0, N, S) ∧ ∀ k, w (k + 1) = settleS (va_up (w k).2.1 (4 + p) (f_X8_held ((w k).2.1 (4 + p) + s))) (w k).2.2 := ⟨bq N S p s, by rw [bq], fun k => by rw [bq]⟩
theorem nI_le0 {c : Nat} (hc : c ≤ 12) : nI c ≤ 0 ↔ nI c = 0 := by
  rw [show (0 : Int32) = nI 0 from rfl, nI_leI (by omega) (by omega), nI_eq (by omega) (by omega)]
  omega
section BREAKS
variable {P : RowsS} {G : GlbS} {M : RowS}
theorem c_breaksIn {w : Nat → BS} {p : Nat} {st : Int32} (hp : p < 8) (hw : ∀ k, w (k + 1) = settleS (va_up (w k).2.1 (4 + p) (f_X8_held ((w k).2.1 (4 + p) + st))) (w k).2.2) (g : Good (P 1) (w 0).2.1 (w 0).2.2) : ∃ r, wloop (fun t : Int32 × RowsS => l_X7_breaksIn_28 200 (nI p) st t.1 t.2) 200 (1, P) = some r ∧ ((∃ P', r = .inl P' ∧ (∀ k, 1 ≤ k → k ≤ 60 → (w k).1 = 0) ∧ ∀ q, q ≠ 1 → P' q = P q) ∨ (∃ P' k, r = .inr (nI k, P') ∧ 1 ≤ k ∧ k ≤ 60 ∧ ¬ (w k).1 = 0 ∧ (∀ m, 1 ≤ m → m < k → (w m).1 = 0) ∧ ∀ q, q ≠ 1 → P' q = P q)) := by
  refine wl_ex (f := fun t : Int32 × RowsS => l_X7_breaksIn_28 200 (nI p) st t.1 t.2) (fun i s => s.1 = nI (i + 1) ∧ (∀ k, 1 ≤ k → k ≤ i → (w k).1 = 0) ∧ Good (s.2 1) (w i).2.1 (w i).2.2 ∧ ∀ q, q ≠ 1 → s.2 q = P q) _ 60 (fun i s hi hs => ?_) (fun s hs => ?_) 60 0 200 (1, P) (by omega) (by omega) ⟨rfl, fun k h1 h2 => by omega, g, fun _ _ => rfl⟩
  · obtain ⟨z, Pz⟩ := s
    obtain ⟨g1, g2, g3, g4⟩ := hs
    simp only at g1 g2 g3 g4
    subst g1
    have wf := press_wf g3.1 hp (held_bd ((w i).2.1 (4 + p) + st))
    have ws := wfS_cell (v := f_X8_held ((w i).2.1 (4 + p) + st)) g3.2.1 (i := 4 + p) (by omega)
    obtain ⟨R2, s1, s2⟩ := settle_good wf ws (zb_cell g3.2.2.1 (by omega)) (press_rel g3.1 g3.2.2.2.2.1 hp)
    obtain ⟨c, f1, f2, -⟩ := settle_facts wf ws
    rw [← hw i] at s1 s2 f2
    have hstep : l_X7_breaksIn_28 200 (nI p) st (nI (i + 1)) Pz = if (w (i + 1)).1 = 0 then some (.inl (nI (i + 1 + 1), va_up Pz 1 R2)) else some (.inr (.inr (nI (i + 1), va_up Pz 1 R2))) := by
      unfold l_X7_breaksIn_28
      rw [show (60 : Int32) = nI 60 from rfl, if_neg (by rw [nI_ltI (by omega) (by omega)]; omega)]
      simp only [lt, c_press hp, g3.2.2.2.2.1.2.2.2.1 p hp, held_eq, c_presses hp, va_up_self, s1, ob_some, up_up, nI_1]
      by_cases hz : (w (i + 1)).1 = 0
      · rw [if_pos hz, if_pos (by rw [hz]; decide)]
      · rw [if_neg hz, if_neg (by rw [f2, nI_le0 f1, ← f2]; exact hz)]
    show (∃ t, l_X7_breaksIn_28 200 (nI p) st (nI (i + 1)) Pz = some (Sum.inl t) ∧ _) ∨ (∃ r, l_X7_breaksIn_28 200 (nI p) st (nI (i + 1)) Pz = some (Sum.inr r) ∧ _)
    rw [hstep]
    have fr : ∀ q, q ≠ 1 → va_up Pz 1 R2 q = P q := fun q hq => by rw [va_up_ne _ _ hq]; exact g4 q hq
    by_cases hz : (w (i + 1)).1 = 0
    · rw [if_pos hz]
      refine Or.inl ⟨_, rfl, rfl, fun k h1 h2 => ?_, ?_, fr⟩
      · by_cases q : k = i + 1
        · subst q; exact hz
        · exact g2 k h1 (by omega)
      · show Good (va_up Pz 1 R2 1) _ _
        rw [va_up_self]; exact s2
    · rw [if_neg hz]
      exact Or.inr ⟨_, rfl, Or.inr ⟨_, i + 1, rfl, by omega, by omega, hz, fun m h1 h2 => g2 m h1 (by omega), fr⟩⟩
  · obtain ⟨z, Pz⟩ := s
    obtain ⟨g1, g2, g3, g4⟩ := hs
    simp only at g1 g2 g3 g4
    subst g1
    refine ⟨.inl Pz, ?_, Or.inl ⟨Pz, rfl, g2, g4⟩⟩
    show l_X7_breaksIn_28 200 (nI p) st (nI (60 + 1)) Pz = _
    unfold l_X7_breaksIn_28
    rw [if_pos (by decide)]
theorem m_breaksIn {A : RowS} {w : Nat → BS} {p : Nat} {st : Int32} (hp : p < 8) (hw : ∀ k, w (k + 1) = settleS (va_up (w k).2.1 (4 + p) (f_X8_held ((w k).2.1 (4 + p) + st))) (w k).2.2) (h0 : (w 0).1 = 0) (h : wfN (w 0).2.1) (hS : wfS (w 0).2.1 (w 0).2.2) (hz : ZB (w 0).2.1 (w 0).2.2) : ∃ r, wloop (fun t : Int32 × Int32 × RowS => l_X8_breaksIn_48 200 (nI p) st t.1 t.2.1 t.2.2) 200 (0, 0, mk A (w 0).2.1 (w 0).2.2) = some r ∧ ∃ k, k ≤ 60 ∧ r = (nI k, (w k).1, mk A (w k).2.1 (w k).2.2) ∧ (∀ m, 1 ≤ m → m < k → (w m).1 = 0) ∧ (k = 60 ∨ ¬ (w k).1 = 0) ∧ ZB (w k).2.1 (w k).2.2 ∧ ((w k).1 ≤ 0 ↔ (w k).1 = 0) := by
  have e4 : (4 : Int32) + nI p = nI (4 + p) := by rw [show (4 : Int32) = nI 4 from rfl, nI_add]
  refine wl_ex (f := fun t : Int32 × Int32 × RowS => l_X8_breaksIn_48 200 (nI p) st t.1 t.2.1 t.2.2) (fun i s => s = (nI i, (w i).1, mk A (w i).2.1 (w i).2.2) ∧ (∀ k, 1 ≤ k → k < i → (w k).1 = 0) ∧ wfN (w i).2.1 ∧ wfS (w i).2.1 (w i).2.2 ∧ ZB (w i).2.1 (w i).2.2 ∧ ((w i).1 ≤ 0 ↔ (w i).1 = 0)) _ 60 (fun i s hi hs => ?_) (fun s hs => ?_) 60 0 200 _ (by omega) (by omega) ⟨by rw [h0]; rfl, fun k h1 h2 => by omega, h, hS, hz, by rw [h0]; decide⟩
  · obtain ⟨rfl, g2, g3, g4, g5, g6⟩ := hs
    show (∃ t, l_X8_breaksIn_48 200 (nI p) st (nI i) (w i).1 (mk A (w i).2.1 (w i).2.2) = some (Sum.inl t) ∧ _) ∨ (∃ r, l_X8_breaksIn_48 200 (nI p) st (nI i) (w i).1 (mk A (w i).2.1 (w i).2.2) = some (Sum.inr r) ∧ _)
    unfold l_X8_breaksIn_48
    rw [show (60 : Int32) = nI 60 from rfl, if_neg (by rw [nI_leI (by omega) (by omega)]; omega)]
    by_cases hq : (w i).1 = 0
    · rw [if_pos hq]
      have wf := press_wf g3 hp (held_bd ((w i).2.1 (4 + p) + st))
      have ws := wfS_cell (v := f_X8_held ((w i).2.1 (4 + p) + st)) g4 (i := 4 + p) (by omega)
      have ms := m_settle (M := A) wf ws (n := 200) (by omega)
      obtain ⟨c, f1, f2, f3, f4, f5, f6, f7, f8⟩ := settle_facts wf ws
      rw [← hw i] at ms f2 f4 f5 f6 f7
      have gi : 0 ≤ (nI (4 + p)).toInt ∧ (nI (4 + p)).toInt < 102 := by rw [nI_toInt (by omega)]; omega
      refine Or.inl ⟨(nI (i + 1), (w (i + 1)).1, mk A (w (i + 1)).2.1 (w (i + 1)).2.2), ?_, rfl, fun k h1 h2 => ?_, f5, f6, zb_set (zb_cell g5 (by omega)) f4 f7, by rw [f2]; exact nI_le0 f1⟩
      · rw [e4, if_pos gi, nI_clamp (by omega), mk_1, lt_eq, if_pos gi, mk_si, lt_eq, ms, ob_some]
        simp only [lt, nI_1]
      · by_cases q : k = i
        · subst q; exact hq
        · exact g2 k h1 (by omega)
    · rw [if_neg hq]
      exact Or.inr ⟨_, rfl, i, by omega, rfl, g2, Or.inr hq, g5, g6⟩
  · obtain ⟨rfl, g2, g3, g4, g5, g6⟩ := hs
    refine ⟨_, ?_, 60, Nat.le_refl _, rfl, g2, Or.inl rfl, g5, g6⟩
    show l_X8_breaksIn_48 200 (nI p) st (nI 60) (w 60).1 (mk A (w 60).2.1 (w 60).2.2) = _
    unfold l_X8_breaksIn_48
    rw [if_pos (by decide)]
theorem ok_breaksIn (I : Inv P G M) (a1 a2 : Int32) : OK_breaksIn Inv P G M a1 a2 := by
  unfold OK_breaksIn f_X7_breaksIn t_X7_breaksIn f_X8_breaksIn
  have I0 : Inv P G (si M 0 0 0) := I
  have t0 : (si M 0 0 0).1 0 0 = 0 := si_at
  simp only [lt]
  generalize si M 0 0 0 = M0 at I0 t0 ⊢
  have g := I0.1
  have h := g.1
  have hcn := cnt_le h
  rcases point_cases (G := G) h g.2.2.2.2.1.1 a1 with ⟨p, p1, p2, p3, p4, p5, p6⟩ | ⟨p4, p5, p6⟩
  · rcases within_cases a2 (-9999) 9999 (lo6 := -9999) (hi6 := 9999) rfl rfl with ⟨q1, q2, q4, q5, q6⟩ | ⟨q4, q5, q6⟩
    · left
      subst p3
      obtain ⟨w, w0, hw⟩ := bq_ex (M0.1 1) (M0.2 5) p a2
      obtain ⟨R1, k1, k2⟩ := c_copy (R := P 1) (R2 := P 0) (c := cnt (M0.1 1)) (n := 200) (by omega) hcn (by rw [g.2.2.2.2.1.2.2.1, n2 h])
      have gR := good_same k2 g
      obtain ⟨A, b1, b2⟩ := aside_ok M0
      have e1 : A.1 1 = M0.1 1 := b2.1 1 (by decide)
      have e5 : A.2 5 = M0.2 5 := b2.2.1 5 (by decide)
      have mA : mk A (w 0).2.1 (w 0).2.2 = A := by rw [w0]; show mk A (M0.1 1) (M0.2 5) = A; rw [← e1, ← e5, mk_id]
      obtain ⟨r, c1, c2⟩ := c_breaksIn (P := va_up P 1 R1) p1 hw (by rw [va_up_self, w0]; exact gR)
      obtain ⟨r', m1, k', m2, m3, m4, m5, m6, m7⟩ := m_breaksIn (A := A) p1 hw (by rw [w0]) (by rw [w0]; exact h) (by rw [w0]; exact g.2.1) (by rw [w0]; exact g.2.2.1)
      rw [mA] at m1
      have mb := back_ok (A := A) (N' := (w k').2.1) (S' := (w k').2.2) b2.2.2.1 b2.2.2.2 g.2.2.1 m6
      have hP : ∀ P' : RowsS, (∀ q, q ≠ 1 → P' q = va_up P 1 R1 q) → P' = va_up P 1 (P' 1) := fun P' hq => by
        funext r
        by_cases hr : r = 1
        · subst hr; rw [va_up_self]
        · rw [va_up_ne _ _ hr, hq r hr, va_up_ne _ _ hr]
      have hk0 : ¬ (w k').1 = 0 → 1 ≤ k' := fun q => by
        by_cases z : k' = 0
        · subst z; rw [w0] at q; exact absurd rfl q
        · omega
      simp only [p4, p6, q4, q6, ob_some, b2i_t, fails_t t0, ff_t]
      rcases c2 with ⟨P', rfl, d1, d2⟩ | ⟨P', k, rfl, d1, d2, d3, d4, d5⟩
      · have hk60 : (w k').1 = 0 := by
          rcases m5 with z | z
          · subst z; exact d1 60 (by omega) (by omega)
          · exact absurd (d1 k' (hk0 z) m2) z
        have ai := aside_inv (R := P' 1) I0 b2
        refine ⟨200, -1, P', 200, -1, mk A (M0.1 1) (M0.2 5), ?_, ?_, ai.2.trans t0, rfl, by rw [hP P' d2]; exact ai.1⟩
        · rw [k1, ob_some, c1]
          rfl
        · rw [b1, ob_some, m1, ob_some, m3]
          unfold b_X8_breaksIn_92
          rw [mb, ob_some, lt_eq, if_pos (m7.mpr hk60)]
      · have hkk : k' = k := by
          rcases Nat.lt_trichotomy k' k with z | z | z
          · rcases m5 with y | y
            · omega
            · exact absurd (d4 k' (hk0 y) z) y
          · exact z
          · exact absurd (m4 k d1 z) d3
        subst hkk
        have ai := aside_inv (R := P' 1) I0 b2
        refine ⟨200, nI k', P', 200, nI k', mk A (M0.1 1) (M0.2 5), ?_, ?_, ai.2.trans t0, rfl, by rw [hP P' d5]; exact ai.1⟩
        · rw [k1, ob_some, c1]
          rfl
        · rw [b1, ob_some, m1, ob_some, m3]
          unfold b_X8_breaksIn_92
          rw [mb, ob_some, lt_eq, if_neg (fun z => d3 (m7.mp z))]
    · right; right
      simp only [p4, p5, p6, q5, q6, ob_some, b2i_t, b2i_f, fails_t t0, fails_f t0 n2_0, ff_t, tt_t, if_true, if_false, zz_t, z2_t, true_and]
      exact ⟨100, _, _, rfl, thr0 2, I0⟩
  · right; left
    simp only [p5, p6, ob_some, b2i_f, fails_f t0 n1_0, tt_t, if_true, if_false, z1_t, true_and]
    exact ⟨100, _, _, rfl, thr0 1, I0⟩
end BREAKS
