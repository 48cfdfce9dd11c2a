/-! CALLS 4: agree, ring -/
theorem isPress_eq (a : Int32) : f_X8_isPressure a = f_X8_in a.toInt64 0 99999 := rfl
theorem isSlant_eq (a : Int32) : f_X8_isSlant a = f_X8_in a.toInt64 50 1000 := rfl
def At (N : Nat → Int32) (p : Int32) (b : Nat) : Prop := tg N b 1 = p ∧ tg N b 6 = 0
noncomputable def PairOK (N : Nat → Int32) (S : Nat → Int64) (p u : Int32) (a : Nat) : Prop := ∀ b, b < a → At N p b → ((toldS N S a).toInt - (toldS N S b).toInt).natAbs ≤ u.toInt.toNat
section AGREE
variable {P : RowsS} {G : GlbS} {M : RowS}
theorem off0_sub {x y u : Int32} (hx : -500000000 ≤ x.toInt ∧ x.toInt ≤ 500000000) (hy : -500000000 ≤ y.toInt ∧ y.toInt ≤ 500000000) (hu : 0 ≤ u.toInt) : f_X8_off0 (x - y) ≤ u ↔ (x.toInt - y.toInt).natAbs ≤ u.toInt.toNat := by
  have e : (x - y).toInt = x.toInt - y.toInt := i32_sub (by omega)
  rw [i32_le, off0_int (by rw [e]; omega), e]
  omega
theorem c_agree {N : Nat → Int32} {S : Nat → Int64} (g : Good (P 0) N S) (p u : Int32) (hu : 0 ≤ u.toInt ∧ u.toInt ≤ 99999) : ∃ res, (ob (wloop (fun t : Int32 × Int32 × Int32 × Int32 => l_X7_agree_23 P p t.1 t.2.1 t.2.2.1 t.2.2.2) 100 (0, 0, 0, 0)) (fun t => b_X7_agree_118 u t.1 t.2)) = some res ∧ (res = true ↔ ∀ a, a < cnt N → At N p a → PairOK N S p u a) := by
  have h := g.1
  have r := g.2.2.2.2.1
  have hc := cnt_le h
  have e0 : (0 : Int32).toInt = 0 := rfl
  have key := wl_rel (f := fun t : Int32 × Int32 × Int32 × Int32 => l_X7_agree_23 P p t.1 t.2.1 t.2.2.1 t.2.2.2) (fun i s => s.2.2.2 = nI i ∧ ((s.1 = 0 ∧ s.2.1 = 0 ∧ s.2.2.1 = 0 ∧ ∀ b, b < i → ¬ At N p b) ∨ (s.1 = 1 ∧ (∃ b, b < i ∧ At N p b ∧ toldS N S b = s.2.1) ∧ (∃ b, b < i ∧ At N p b ∧ toldS N S b = s.2.2.1) ∧ ∀ b, b < i → At N p b → s.2.1.toInt ≤ (toldS N S b).toInt ∧ (toldS N S b).toInt ≤ s.2.2.1.toInt))) (fun q => (q.1 = 0 ∧ q.2 = 0 ∧ ∀ b, b < cnt N → ¬ At N p b) ∨ ((∃ b, b < cnt N ∧ At N p b ∧ toldS N S b = q.1) ∧ (∃ b, b < cnt N ∧ At N p b ∧ toldS N S b = q.2) ∧ ∀ b, b < cnt N → At N p b → q.1.toInt ≤ (toldS N S b).toInt ∧ (toldS N S b).toInt ≤ q.2.toInt)) (cnt N) (fun i s hi hs => by
    obtain ⟨z3, z4, z5, z6⟩ := s
    obtain ⟨g1, g2⟩ := hs
    simp only at g1 g2
    subst g1
    have keep : ¬ At N p i → ((z3 = 0 ∧ z4 = 0 ∧ z5 = 0 ∧ ∀ b, b < i + 1 → ¬ At N p b) ∨ (z3 = 1 ∧ (∃ b, b < i + 1 ∧ At N p b ∧ toldS N S b = z4) ∧ (∃ b, b < i + 1 ∧ At N p b ∧ toldS N S b = z5) ∧ ∀ b, b < i + 1 → At N p b → z4.toInt ≤ (toldS N S b).toInt ∧ (toldS N S b).toInt ≤ z5.toInt)) := by
      intro hn
      rcases g2 with ⟨a1, a2, a3, a4⟩ | ⟨a1, ⟨b1, b2, b3, b4⟩, ⟨c1, c2, c3, c4⟩, a4⟩
      · refine Or.inl ⟨a1, a2, a3, fun b hb => ?_⟩
        by_cases q : b = i
        · rw [q]; exact hn
        · exact a4 b (by omega)
      · refine Or.inr ⟨a1, ⟨b1, by omega, b3, b4⟩, ⟨c1, by omega, c3, c4⟩, fun b hb hA => ?_⟩
        by_cases q : b = i
        · rw [q] at hA; exact absurd hA hn
        · exact a4 b (by omega) hA
    have st : l_X7_agree_23 P p z3 z4 z5 (nI i) = if tg N i 6 = 0 then (if tg N i 1 = p then (if z3 = 0 then some (.inl (1, toldS N S i, toldS N S i, nI (i + 1))) else some (.inl (1, jmin z4 (toldS N S i), jmax z5 (toldS N S i), nI (i + 1)))) else some (.inl (z3, z4, z5, nI (i + 1)))) else some (.inl (z3, z4, z5, nI (i + 1))) := by
      unfold l_X7_agree_23 b_X7_agree_90 b_X7_agree_108 b_X7_agree_112
      rw [r.2.2.1, n2 h, if_neg (by rw [nI_leI (by omega) (by omega)]; omega), c_tubeAt (show i < 12 by omega)]
      simp only [lt, c_tg g hi (show 6 < 7 by decide), c_tg g hi (show 1 < 7 by decide), c_told g hi, nI_1]
      by_cases h3 : z3 = 0
      · simp only [if_pos h3]
      · simp only [if_neg h3]
    show ∃ t, l_X7_agree_23 P p z3 z4 z5 (nI i) = some (Sum.inl t) ∧ _
    rw [st]
    by_cases h6 : tg N i 6 = 0
    · rw [if_pos h6]
      by_cases h1 : tg N i 1 = p
      · rw [if_pos h1]
        have hA : At N p i := ⟨h1, h6⟩
        rcases g2 with ⟨a1, a2, a3, a4⟩ | ⟨a1, ⟨b1, b2, b3, b4⟩, ⟨c1, c2, c3, c4⟩, a4⟩
        · rw [if_pos a1]
          refine ⟨_, rfl, rfl, Or.inr ⟨rfl, ⟨i, by omega, hA, rfl⟩, ⟨i, by omega, hA, rfl⟩, fun b hb hB => ?_⟩⟩
          by_cases q : b = i
          · rw [q]; exact ⟨Int.le_refl _, Int.le_refl _⟩
          · exact absurd hB (a4 b (by omega))
        · rw [if_neg (by rw [a1]; decide)]
          refine ⟨_, rfl, rfl, Or.inr ⟨rfl, ?_, ?_, fun b hb hB => ?_⟩⟩
          · show ∃ b, b < i + 1 ∧ At N p b ∧ toldS N S b = jmin z4 (toldS N S i)
            unfold jmin
            split
            · exact ⟨i, by omega, hA, rfl⟩
            · exact ⟨b1, by omega, b3, b4⟩
          · show ∃ b, b < i + 1 ∧ At N p b ∧ toldS N S b = jmax z5 (toldS N S i)
            unfold jmax
            split
            · exact ⟨i, by omega, hA, rfl⟩
            · exact ⟨c1, by omega, c3, c4⟩
          · show (jmin z4 (toldS N S i)).toInt ≤ _ ∧ _ ≤ (jmax z5 (toldS N S i)).toInt
            unfold jmin jmax
            simp only [i32_lt]
            by_cases q : b = i
            · subst q
              constructor <;> split <;> omega
            · have := a4 b (by omega) hB
              constructor <;> split <;> omega
      · rw [if_neg h1]
        exact ⟨_, rfl, rfl, keep (fun q => h1 q.1)⟩
    · rw [if_neg h6]
      exact ⟨_, rfl, rfl, keep (fun q => h6 q.2)⟩) (fun s hs => by
    obtain ⟨z3, z4, z5, z6⟩ := s
    obtain ⟨g1, g2⟩ := hs
    simp only at g1 g2
    refine ⟨(z4, z5), ?_, ?_⟩
    · show l_X7_agree_23 P p z3 z4 z5 z6 = _
      unfold l_X7_agree_23
      rw [r.2.2.1, n2 h, g1, if_pos (by rw [nI_leI (by omega) (by omega)]; omega)]
    · rcases g2 with ⟨a1, a2, a3, a4⟩ | ⟨a1, a2, a3, a4⟩
      · exact Or.inl ⟨a2, a3, a4⟩
      · exact Or.inr ⟨a2, a3, a4⟩) (cnt N) 0 100 (0, 0, 0, 0) (by omega) (by omega) ⟨rfl, Or.inl ⟨rfl, rfl, rfl, fun b hb => by omega⟩⟩
  obtain ⟨⟨lo, hi⟩, k1, k2⟩ := key
  rw [k1, ob_some]
  show ∃ res, b_X7_agree_118 u lo hi = some res ∧ _
  unfold b_X7_agree_118
  rcases k2 with ⟨a1, a2, a3⟩ | ⟨⟨b1, b2, b3, b4⟩, ⟨c1, c2, c3, c4⟩, a4⟩
  · simp only at a1 a2 a3
    subst a1 a2
    have : ¬ u < (0 : Int32) - 0 := by rw [i32_lt, show ((0 : Int32) - 0).toInt = 0 from rfl]; omega
    rw [if_neg this]
    exact ⟨true, rfl, ⟨fun _ a ha hA => absurd hA (a3 a ha), fun _ => rfl⟩⟩
  · simp only at b4 c4 a4
    have w1 := told_bd h g.2.1 b2
    have w2 := told_bd h g.2.1 c2
    rw [b4] at w1
    rw [c4] at w2
    have e : (hi - lo).toInt = hi.toInt - lo.toInt := i32_sub (by omega)
    by_cases hq : u < hi - lo
    · rw [if_pos hq]
      rw [i32_lt, e] at hq
      refine ⟨false, rfl, ⟨fun q => (by cases q), fun q => ?_⟩⟩
      exfalso
      rcases Nat.lt_trichotomy b1 c1 with l | l | l
      · have := q c1 c2 c3 b1 l b3
        rw [b4, c4] at this
        omega
      · rw [l] at b4
        rw [b4] at c4
        rw [c4] at hq
        omega
      · have := q b1 b2 b3 c1 l c3
        rw [b4, c4] at this
        omega
    · rw [if_neg hq]
      rw [i32_lt, e] at hq
      refine ⟨true, rfl, ⟨fun _ a ha hA b hb hB => ?_, fun _ => rfl⟩⟩
      have v1 := a4 a ha hA
      have v2 := a4 b (by omega) hB
      omega
theorem m_agree1 (h : wfN (M.1 1)) (hS : wfS (M.1 1) (M.2 5)) (p u : Int32) (hu : 0 ≤ u.toInt ∧ u.toInt ≤ 99999) {a : Nat} (ha : a < cnt (M.1 1)) : ∃ r, wloop (fun t : Int32 => l_X8_agree_68 100 p u M (nI a) t) 100 0 = some r ∧ ((r = .inl () ∧ PairOK (M.1 1) (M.2 5) p u a) ∨ (r = .inr (false, M) ∧ ¬ PairOK (M.1 1) (M.2 5) p u a)) := by
  have hc := cnt_le h
  have hA := told_bd h hS ha
  refine wl_ex (f := fun t : Int32 => l_X8_agree_68 100 p u M (nI a) t) (fun i s => s = nI i ∧ ∀ b, b < i → At (M.1 1) p b → ((toldS (M.1 1) (M.2 5) a).toInt - (toldS (M.1 1) (M.2 5) b).toInt).natAbs ≤ u.toInt.toNat) _ a (fun i s hi hs => ?_) (fun s hs => ?_) a 0 100 0 (by omega) (by omega) ⟨rfl, fun b hb => by omega⟩
  · obtain ⟨g1, g2⟩ := hs
    subst g1
    have hB := told_bd h hS (t := i) (by omega)
    have st : l_X8_agree_68 100 p u M (nI a) (nI i) = if tg (M.1 1) i 1 = p then (if tg (M.1 1) i 6 = 0 then (if f_X8_off0 (toldS (M.1 1) (M.2 5) a - toldS (M.1 1) (M.2 5) i) ≤ u then some (.inl (nI (i + 1))) else some (.inr (.inr (false, M)))) else some (.inl (nI (i + 1)))) else some (.inl (nI (i + 1))) := by
      unfold l_X8_agree_68 b_X8_agree_115
      rw [if_neg (by rw [nI_leI (by omega) (by omega)]; omega), m_of1 (by omega), ob_some, m_whole (by omega)]
      by_cases h6 : tg (M.1 1) i 6 = 0
      · rw [if_pos h6, if_pos h6, ob_some, if_pos rfl, m_told h hS ha (by omega), ob_some, m_told h hS (by omega) (by omega), ob_some]
        simp only [lt, nI_1]
      · rw [if_neg h6, if_neg h6, ob_some, if_neg Bool.false_ne_true]
        simp only [lt, nI_1]
    show (∃ t, l_X8_agree_68 100 p u M (nI a) (nI i) = some (Sum.inl t) ∧ _) ∨ (∃ r, l_X8_agree_68 100 p u M (nI a) (nI i) = some (Sum.inr r) ∧ _)
    rw [st]
    have keep : (At (M.1 1) p i → ((toldS (M.1 1) (M.2 5) a).toInt - (toldS (M.1 1) (M.2 5) i).toInt).natAbs ≤ u.toInt.toNat) → ∀ b, b < i + 1 → At (M.1 1) p b → ((toldS (M.1 1) (M.2 5) a).toInt - (toldS (M.1 1) (M.2 5) b).toInt).natAbs ≤ u.toInt.toNat := by
      intro hn b hb hB2
      by_cases q : b = i
      · subst q; exact hn hB2
      · exact g2 b (by omega) hB2
    by_cases h1 : tg (M.1 1) i 1 = p
    · rw [if_pos h1]
      by_cases h6 : tg (M.1 1) i 6 = 0
      · rw [if_pos h6]
        by_cases hq : f_X8_off0 (toldS (M.1 1) (M.2 5) a - toldS (M.1 1) (M.2 5) i) ≤ u
        · rw [if_pos hq]
          rw [off0_sub hA hB hu.1] at hq
          exact Or.inl ⟨_, rfl, rfl, keep (fun _ => hq)⟩
        · rw [if_neg hq]
          rw [off0_sub hA hB hu.1] at hq
          exact Or.inr ⟨_, rfl, Or.inr ⟨rfl, fun q => hq (q i hi ⟨h1, h6⟩)⟩⟩
      · rw [if_neg h6]
        exact Or.inl ⟨_, rfl, rfl, keep (fun q => absurd q.2 h6)⟩
    · rw [if_neg h1]
      exact Or.inl ⟨_, rfl, rfl, keep (fun q => absurd q.1 h1)⟩
  · obtain ⟨g1, g2⟩ := hs
    subst g1
    refine ⟨.inl (), ?_, Or.inl ⟨rfl, g2⟩⟩
    show l_X8_agree_68 100 p u M (nI a) (nI a) = _
    unfold l_X8_agree_68
    rw [if_pos (by rw [nI_leI (by omega) (by omega)]; omega)]
theorem m_agree2 (h : wfN (M.1 1)) (hS : wfS (M.1 1) (M.2 5)) (p u : Int32) (hu : 0 ≤ u.toInt ∧ u.toInt ≤ 99999) : ∃ r, wloop (fun t : Int32 => l_X8_agree_34 100 p u M t) 100 0 = some r ∧ ((r = .inl () ∧ ∀ a, a < cnt (M.1 1) → At (M.1 1) p a → PairOK (M.1 1) (M.2 5) p u a) ∨ (r = .inr (false, M) ∧ ¬ ∀ a, a < cnt (M.1 1) → At (M.1 1) p a → PairOK (M.1 1) (M.2 5) p u a)) := by
  have hc := cnt_le h
  have e2 : (2 : Int32).toNatClampNeg = 2 := rfl
  refine wl_ex (f := fun t : Int32 => l_X8_agree_34 100 p u M t) (fun i s => s = nI i ∧ ∀ a, a < i → At (M.1 1) p a → PairOK (M.1 1) (M.2 5) p u a) _ (cnt (M.1 1)) (fun i s hi hs => ?_) (fun s hs => ?_) (cnt (M.1 1)) 0 100 0 (by omega) (by omega) ⟨rfl, fun b hb => by omega⟩
  · obtain ⟨g1, g2⟩ := hs
    subst g1
    have keep : (At (M.1 1) p i → PairOK (M.1 1) (M.2 5) p u i) → ∀ b, b < i + 1 → At (M.1 1) p b → PairOK (M.1 1) (M.2 5) p u b := by
      intro hn b hb hB
      by_cases q : b = i
      · subst q; exact hn hB
      · exact g2 b (by omega) hB
    show (∃ t, l_X8_agree_34 100 p u M (nI i) = some (Sum.inl t) ∧ _) ∨ (∃ r, l_X8_agree_34 100 p u M (nI i) = some (Sum.inr r) ∧ _)
    unfold l_X8_agree_34 b_X8_agree_121
    rw [if_pos (by decide), e2, n2 h, if_neg (by rw [nI_leI (by omega) (by omega)]; omega), m_of1 (by omega), ob_some, m_whole (by omega)]
    by_cases h1 : tg (M.1 1) i 1 = p
    · rw [if_pos h1]
      by_cases h6 : tg (M.1 1) i 6 = 0
      · rw [if_pos h6, ob_some, if_pos rfl]
        obtain ⟨r, r1, r2⟩ := m_agree1 h hS p u hu hi
        rw [r1, ob_some]
        rcases r2 with ⟨rfl, r2⟩ | ⟨rfl, r2⟩
        · exact Or.inl ⟨nI (i + 1), by simp only [lt, nI_1], rfl, keep (fun _ => r2)⟩
        · exact Or.inr ⟨_, rfl, Or.inr ⟨rfl, fun q => r2 (q i hi ⟨h1, h6⟩)⟩⟩
      · rw [if_neg h6, ob_some, if_neg Bool.false_ne_true]
        exact Or.inl ⟨nI (i + 1), by simp only [lt, nI_1], rfl, keep (fun q => absurd q.2 h6)⟩
    · rw [if_neg h1]
      exact Or.inl ⟨nI (i + 1), by simp only [lt, nI_1], rfl, keep (fun q => absurd q.1 h1)⟩
  · obtain ⟨g1, g2⟩ := hs
    subst g1
    refine ⟨.inl (), ?_, Or.inl ⟨rfl, g2⟩⟩
    show l_X8_agree_34 100 p u M (nI (cnt (M.1 1))) = _
    unfold l_X8_agree_34
    rw [if_pos (by decide), e2, n2 h, if_pos (by rw [nI_leI (by omega) (by omega)]; omega)]
theorem ok_agree (I : Inv P G M) (a1 a2 : Int32) : OK_agree Inv P G M a1 a2 := by
  unfold OK_agree f_X7_agree t_X7_agree f_X8_agree
  have I0 : Inv P G (si M 0 0 0) := I
  have t0 : (si M 0 0 0).1 0 0 = 0 := si_at
  simp only [lt, isPress_eq]
  generalize si M 0 0 0 = M0 at I0 t0 ⊢
  have g := I0.1
  rcases point_cases (G := G) g.1 g.2.2.2.2.1.1 a1 with ⟨p, p1, p2, p3, p4, p5, p6⟩ | ⟨p4, p5, p6⟩
  · rcases within_cases a2 0 99999 (lo6 := 0) (hi6 := 99999) rfl rfl with ⟨q1, q2, q4, q5, q6⟩ | ⟨q4, q5, q6⟩
    · left
      have hu : 0 ≤ a2.toInt ∧ a2.toInt ≤ 99999 := ⟨q1, q2⟩
      obtain ⟨res, c1, c2⟩ := c_agree g a1 a2 hu
      obtain ⟨r, m1, m2⟩ := m_agree2 g.1 g.2.1 a1 a2 hu
      simp only [p4, p6, q4, q6, ob_some, b2i_t, fails_t t0, ff_t]
      rcases m2 with ⟨rfl, m2⟩ | ⟨rfl, m2⟩
      · have : res = true := c2.mpr m2
        subst this
        exact ⟨100, true, 100, true, M0, c1, by rw [m1]; rfl, t0, rfl, I0⟩
      · have : res = false := by
          cases res with
          | false => rfl
          | true => exact absurd (c2.mp rfl) m2
        subst this
        exact ⟨100, false, 100, false, M0, c1, by rw [m1]; rfl, t0, rfl, I0⟩
    · right; right
      simp only [p4, p5, p6, q5, q6, ob_some, b2i_t, b2i_f, fails_t t0, fails_f t0 n2_0, ff_t, tt_t, if_true, if_false, zz_t, z2_t, true_and]
      exact ⟨100, _, _, rfl, thr0 2, I0⟩
  · right; left
    simp only [p5, p6, ob_some, b2i_f, fails_f t0 n1_0, tt_t, if_true, if_false, z1_t, true_and]
    exact ⟨100, _, _, rfl, thr0 1, I0⟩
end AGREE
