/-! CALLS 5: ring -/
def fstW (N : Nat → Int32) : Nat → Option Nat
  | 0 => none
  | n + 1 => if tg N n 6 = 0 then (match fstW N n with | none => some n | some a => some a) else fstW N n
def lstW (N : Nat → Int32) : Nat → Option Nat
  | 0 => none
  | n + 1 => if tg N n 6 = 0 then some n else lstW N n
noncomputable def sumW (N : Nat → Int32) (S : Nat → Int64) : Nat → Int32
  | 0 => 0
  | n + 1 => if tg N n 6 = 0 then (match lstW N n with | none => sumW N S n | some l => sumW N S n + diffS N S l n) else sumW N S n
section W
variable {N : Nat → Int32} {S : Nat → Int64}
theorem w_cls : ∀ n, (wh N n = 0 ∧ fstW N n = none ∧ lstW N n = none ∧ sumW N S n = 0) ∨ (wh N n = 1 ∧ ∃ a, a < n ∧ fstW N n = some a ∧ lstW N n = some a) ∨ (2 ≤ wh N n ∧ ∃ a b, a < b ∧ b < n ∧ fstW N n = some a ∧ lstW N n = some b) := by
  intro n
  induction n with
  | zero => exact Or.inl ⟨rfl, rfl, rfl, rfl⟩
  | succ n ih =>
    by_cases h6 : tg N n 6 = 0
    · right
      simp only [wh, fstW, lstW, if_pos h6]
      rcases ih with ⟨i1, i2, i3, i4⟩ | ⟨i1, a, i2, i3, i4⟩ | ⟨i1, a, b, i2, i3, i4, i5⟩
      · exact Or.inl ⟨by omega, n, by omega, by rw [i2], rfl⟩
      · exact Or.inr ⟨by omega, a, n, by omega, by omega, by rw [i3], rfl⟩
      · exact Or.inr ⟨by omega, a, n, by omega, by omega, by rw [i4], rfl⟩
    · simp only [wh, fstW, lstW, sumW, if_neg h6]
      rcases ih with ⟨i1, i2, i3, i4⟩ | ⟨i1, a, i2, i3, i4⟩ | ⟨i1, a, b, i2, i3, i4, i5⟩
      · exact Or.inl ⟨by omega, i2, i3, i4⟩
      · exact Or.inr (Or.inl ⟨by omega, a, by omega, i3, i4⟩)
      · exact Or.inr (Or.inr ⟨by omega, a, b, by omega, by omega, i4, i5⟩)
theorem w_none : ∀ n, (∀ u, u < n → ¬ tg N u 6 = 0) → fstW N n = none ∧ lstW N n = none ∧ sumW N S n = 0 := by
  intro n
  induction n with
  | zero => intro _; exact ⟨rfl, rfl, rfl⟩
  | succ n ih =>
    intro h
    simp only [fstW, lstW, sumW, if_neg (h n (by omega))]
    exact ih (fun u hu => h u (by omega))
theorem w_skip {t : Nat} (ht : tg N t 6 = 0) : ∀ d, (∀ u, t < u → u < t + 1 + d → ¬ tg N u 6 = 0) → lstW N (t + 1 + d) = some t ∧ sumW N S (t + 1 + d) = sumW N S (t + 1) := by
  intro d
  induction d with
  | zero => intro _; exact ⟨by simp only [Nat.add_zero, lstW, if_pos ht], rfl⟩
  | succ d ih =>
    intro h
    have h6 := h (t + 1 + d) (by omega) (by omega)
    rw [show t + 1 + (d + 1) = (t + 1 + d) + 1 by omega]
    rw [lstW, sumW, if_neg h6, if_neg h6]
    exact ih (fun u h1 h2 => h u h1 (by omega))
theorem w_fst {a : Nat} : ∀ d n, fstW N n = some a → fstW N (n + d) = some a := by
  intro d
  induction d with
  | zero => intro n h; exact h
  | succ d ih =>
    intro n h
    rw [show n + (d + 1) = (n + d) + 1 by omega, fstW, ih n h]
    split <;> rfl
end W
section RING
variable {P : RowsS} {G : GlbS} {M : RowS}
theorem m_next (h : wfN (M.1 1)) {a : Nat} (ha : a ≤ cnt (M.1 1)) : ∃ o, f_X8_nextWhole 100 M (nI a) = some (enc o) ∧ ((o = none ∧ ∀ u, a ≤ u → u < cnt (M.1 1) → ¬ tg (M.1 1) u 6 = 0) ∨ ∃ b, o = some b ∧ a ≤ b ∧ b < cnt (M.1 1) ∧ tg (M.1 1) b 6 = 0 ∧ ∀ u, a ≤ u → u < b → ¬ tg (M.1 1) u 6 = 0) := by
  have hc := cnt_le h
  have e2 : (2 : Int32).toNatClampNeg = 2 := rfl
  obtain ⟨r, r1, r2⟩ := wl_ex (f := fun t : Int32 => l_X8_nextWhole_2 M t) (fun i s => s = nI i ∧ a ≤ i ∧ ∀ u, a ≤ u → u < i → ¬ tg (M.1 1) u 6 = 0) (fun r => (r = .inl () ∧ ∀ u, a ≤ u → u < cnt (M.1 1) → ¬ tg (M.1 1) u 6 = 0) ∨ ∃ b, r = .inr (nI b) ∧ a ≤ b ∧ b < cnt (M.1 1) ∧ tg (M.1 1) b 6 = 0 ∧ ∀ u, a ≤ u → u < b → ¬ tg (M.1 1) u 6 = 0) (cnt (M.1 1)) (fun i s hi hs => by
    obtain ⟨g1, g2, g3⟩ := hs
    subst g1
    show (∃ t, l_X8_nextWhole_2 M (nI i) = some (Sum.inl t) ∧ _) ∨ (∃ r, l_X8_nextWhole_2 M (nI i) = some (Sum.inr r) ∧ _)
    unfold l_X8_nextWhole_2
    rw [if_pos (by decide), e2, n2 h, if_neg (by rw [nI_leI (by omega) (by omega)]; omega), m_whole (by omega)]
    by_cases h6 : tg (M.1 1) i 6 = 0
    · rw [if_pos h6, ob_some, if_pos rfl]
      exact Or.inr ⟨_, rfl, Or.inr ⟨i, rfl, g2, hi, h6, g3⟩⟩
    · rw [if_neg h6, ob_some, if_neg Bool.false_ne_true]
      refine Or.inl ⟨nI (i + 1), by simp only [lt, nI_1], rfl, by omega, fun u u1 u2 => ?_⟩
      by_cases q : u = i
      · rw [q]; exact h6
      · exact g3 u u1 (by omega)) (fun s hs => by
    obtain ⟨g1, g2, g3⟩ := hs
    subst g1
    refine ⟨.inl (), ?_, Or.inl ⟨rfl, g3⟩⟩
    show l_X8_nextWhole_2 M (nI (cnt (M.1 1))) = _
    unfold l_X8_nextWhole_2
    rw [if_pos (by decide), e2, n2 h, if_pos (by rw [nI_leI (by omega) (by omega)]; omega)]) (cnt (M.1 1) - a) a 100 (nI a) (by omega) (by omega) ⟨rfl, Nat.le_refl _, fun u u1 u2 => by omega⟩
  unfold f_X8_nextWhole
  rw [r1, ob_some]
  rcases r2 with ⟨rfl, r2⟩ | ⟨b, rfl, r2⟩
  · exact ⟨none, rfl, Or.inl ⟨rfl, r2⟩⟩
  · exact ⟨some b, rfl, Or.inr ⟨b, rfl, r2⟩⟩
theorem ok_ring (I : Inv P G M) : OK_ring Inv P G M := by
  unfold OK_ring f_X8_ring
  have I0 : Inv P G (si M 0 0 0) := I
  simp only [lt]
  generalize si M 0 0 0 = M0 at I0 ⊢
  have g := I0.1
  have h := g.1
  have r := g.2.2.2.2.1
  have hc := cnt_le h
  have hw := wh_le (N := M0.1 1) (cnt (M0.1 1))
  have ck : wloop (fun t : Int32 × Int32 × Int32 × Int32 => l_X7_ring_9 P t.1 t.2.1 t.2.2.1 t.2.2.2) 100 (-1, -1, 0, 0) = some (enc (fstW (M0.1 1) (cnt (M0.1 1))), enc (lstW (M0.1 1) (cnt (M0.1 1))), sumW (M0.1 1) (M0.2 5) (cnt (M0.1 1))) :=
    wl_count (f := fun t : Int32 × Int32 × Int32 × Int32 => l_X7_ring_9 P t.1 t.2.1 t.2.2.1 t.2.2.2) (fun i => (enc (fstW (M0.1 1) i), enc (lstW (M0.1 1) i), sumW (M0.1 1) (M0.2 5) i, nI i)) (cnt (M0.1 1)) _ (fun i hi => by
      show l_X7_ring_9 P (enc (fstW (M0.1 1) i)) (enc (lstW (M0.1 1) i)) (sumW (M0.1 1) (M0.2 5) i) (nI i) = _
      unfold l_X7_ring_9 b_X7_ring_74 b_X7_ring_77
      rw [r.2.2.1, n2 h, if_neg (by rw [nI_leI (by omega) (by omega)]; omega), c_tubeAt (show i < 12 by omega)]
      simp only [lt, c_tg g hi (show 6 < 7 by decide), nI_1, fstW, lstW, sumW]
      by_cases h6 : tg (M0.1 1) i 6 = 0
      · rw [if_pos h6, if_pos h6, if_pos h6, if_pos h6]
        rcases w_cls (N := M0.1 1) (S := M0.2 5) i with ⟨i1, i2, i3, i4⟩ | ⟨i1, a, i2, i3, i4⟩ | ⟨i1, a, b, i2, i3, i4, i5⟩
        · rw [i2, i3]
          exact if_pos rfl
        · rw [i3, i4]
          show (if nI a = -1 then _ else _) = _
          rw [if_neg (enc_ne (by omega))]
          simp only [enc]
          rw [c_tubeAt (show a < 12 by omega), c_diff g (show a < cnt (M0.1 1) by omega) hi]
        · rw [i4, i5]
          show (if nI b = -1 then _ else _) = _
          rw [if_neg (enc_ne (by omega))]
          simp only [enc]
          rw [c_tubeAt (show b < 12 by omega), c_diff g (show b < cnt (M0.1 1) by omega) hi]
      · rw [if_neg h6, if_neg h6, if_neg h6, if_neg h6]) (by
      show l_X7_ring_9 P _ _ _ (nI (cnt (M0.1 1))) = _
      unfold l_X7_ring_9
      rw [r.2.2.1, n2 h, if_pos (by rw [nI_leI (by omega) (by omega)]; omega)]) 100 (by omega)
  rw [show f_X7_ring = fun n P G => ob (wloop (fun t => l_X7_ring_9 P t.1 t.2.1 t.2.2.1 t.2.2.2) n ((-1), (-1), 0, 0)) (fun t => b_X7_ring_83 P t.1 t.2.1 t.2.2) from rfl]
  have ms := m_state h 0 (n := 100) (by omega)
  rw [← wh_cS] at ms
  have small : wh (M0.1 1) (cnt (M0.1 1)) < 2 → enc (fstW (M0.1 1) (cnt (M0.1 1))) = enc (lstW (M0.1 1) (cnt (M0.1 1))) → ∃ n res n2 b M', (ob (wloop (fun t : Int32 × Int32 × Int32 × Int32 => l_X7_ring_9 P t.1 t.2.1 t.2.2.1 t.2.2.2) n (-1, -1, 0, 0)) (fun t => b_X7_ring_83 P t.1 t.2.1 t.2.2)) = some res ∧ (ob (f_X8_many n2 M0 0) fun x2 => if 2 ≤ x2 then ob (f_X8_nextWhole n2 M0 0) fun x4 => ob (wloop (fun t : Int32 × Int32 => l_X8_ring_26 n2 M0 x4 t.1 t.2) n2 (0, x4)) (fun t => b_X8_ring_63 t M0) else some (0, M0)) = some (b, M') ∧ res = b ∧ Inv P G M' := by
    intro q1 q2
    refine ⟨100, 0, 100, 0, M0, ?_, ?_, rfl, I0⟩
    · rw [ck, ob_some]
      exact if_pos q2
    · rw [ms, ob_some, if_neg]
      rw [show (2 : Int32) = nI 2 from rfl, nI_leI (by omega) (by omega)]
      omega
  rcases w_cls (N := M0.1 1) (S := M0.2 5) (cnt (M0.1 1)) with ⟨i1, i2, i3, i4⟩ | ⟨i1, a, i2, i3, i4⟩ | ⟨i1, f, l, i2, i3, i4, i5⟩
  · exact small (by omega) (by rw [i2, i3])
  · exact small (by omega) (by rw [i3, i4])
  · clear small
    obtain ⟨o, o1, o2⟩ := m_next (M := M0) h (a := 0) (by omega)
    have o1' : f_X8_nextWhole 100 M0 0 = some (enc o) := o1
    rcases o2 with ⟨o2, o3⟩ | ⟨f', o2, o3, o4, o5, o6⟩
    · have := w_none (N := M0.1 1) (S := M0.2 5) (cnt (M0.1 1)) (fun u hu => o3 u (by omega) hu)
      rw [i4] at this
      exact absurd this.1 (by intro q; cases q)
    · subst o2
      have hn := w_none (N := M0.1 1) (S := M0.2 5) f' (fun u hu => o6 u (by omega) hu)
      have hf1 : fstW (M0.1 1) (f' + 1) = some f' := by rw [fstW, if_pos o5, hn.1]
      have hs1 : sumW (M0.1 1) (M0.2 5) (f' + 1) = 0 := by rw [sumW, if_pos o5, hn.2.1]; exact hn.2.2
      have hff := w_fst (cnt (M0.1 1) - (f' + 1)) (f' + 1) hf1
      rw [show f' + 1 + (cnt (M0.1 1) - (f' + 1)) = cnt (M0.1 1) by omega, i4] at hff
      cases hff
      obtain ⟨res, k1, k2⟩ := wl_inv (f := fun t : Int32 × Int32 => l_X8_ring_26 100 M0 (nI f) t.1 t.2) (fun s => ∃ t, s.2 = nI t ∧ t < cnt (M0.1 1) ∧ tg (M0.1 1) t 6 = 0 ∧ s.1 = sumW (M0.1 1) (M0.2 5) (t + 1)) (fun r => r = sumW (M0.1 1) (M0.2 5) (cnt (M0.1 1)) + diffS (M0.1 1) (M0.2 5) l f) (fun s => 20 - s.2.toNatClampNeg) (fun s hs => by
        obtain ⟨z, k⟩ := s
        obtain ⟨t, t1, t2, t3, t4⟩ := hs
        simp only at t1 t4
        subst t1 t4
        obtain ⟨o, p1, p2⟩ := m_next (M := M0) h (a := t + 1) (by omega)
        show (∃ q, l_X8_ring_26 100 M0 (nI f) (sumW (M0.1 1) (M0.2 5) (t + 1)) (nI t) = some (Sum.inl q) ∧ _) ∨ (∃ q, l_X8_ring_26 100 M0 (nI f) (sumW (M0.1 1) (M0.2 5) (t + 1)) (nI t) = some (Sum.inr q) ∧ _)
        unfold l_X8_ring_26 b_X8_ring_50
        rw [nI_1, p1, ob_some]
        rcases p2 with ⟨rfl, p3⟩ | ⟨b, rfl, p3, p4, p5, p6⟩
        · right
          have hk := w_skip (S := M0.2 5) t3 (cnt (M0.1 1) - (t + 1)) (fun u u1 u2 => p3 u (by omega) (by omega))
          rw [show t + 1 + (cnt (M0.1 1) - (t + 1)) = cnt (M0.1 1) by omega] at hk
          have hl := hk.1
          rw [i5] at hl
          cases hl
          refine ⟨sumW (M0.1 1) (M0.2 5) (l + 1) + diffS (M0.1 1) (M0.2 5) l f, ?_, by rw [hk.2]⟩
          rw [show enc none = -1 from rfl, if_pos rfl, m_diff h g.2.1 t2 (by omega) (by omega), ob_some, lt_eq, if_pos rfl]
        · left
          have hk := w_skip (S := M0.2 5) t3 (b - (t + 1)) (fun u u1 u2 => p6 u (by omega) (by omega))
          rw [show t + 1 + (b - (t + 1)) = b by omega] at hk
          refine ⟨(sumW (M0.1 1) (M0.2 5) (b + 1), nI b), ?_, ⟨b, rfl, p4, p5, rfl⟩, ?_⟩
          · rw [show enc (some b) = nI b from rfl, if_neg (enc_ne (by omega)), m_diff h g.2.1 t2 p4 (by omega), ob_some, lt_eq, if_neg (enc_ne (by omega))]
            have : sumW (M0.1 1) (M0.2 5) (b + 1) = sumW (M0.1 1) (M0.2 5) (t + 1) + diffS (M0.1 1) (M0.2 5) t b := by
              rw [sumW, if_pos p5, hk.1, hk.2]
            rw [this]
          · show 20 - (nI b).toNatClampNeg < 20 - (nI t).toNatClampNeg
            rw [nI_clamp (by omega), nI_clamp (by omega)]
            omega) 100 (0, nI f) ⟨f, rfl, o4, o5, hs1.symm⟩ (by
        show 20 - (nI f).toNatClampNeg < 100
        omega)
      refine ⟨100, sumW (M0.1 1) (M0.2 5) (cnt (M0.1 1)) + diffS (M0.1 1) (M0.2 5) l f, 100, res, M0, ?_, ?_, k2.symm, I0⟩
      · show ob (wloop (fun t : Int32 × Int32 × Int32 × Int32 => l_X7_ring_9 P t.1 t.2.1 t.2.2.1 t.2.2.2) 100 (-1, -1, 0, 0)) (fun t => b_X7_ring_83 P t.1 t.2.1 t.2.2) = _
        rw [ck, ob_some, i4, i5]
        show (if nI f = nI l then _ else _) = _
        rw [if_neg (by rw [nI_eq (by omega) (by omega)]; omega)]
        simp only [lt, enc]
        rw [c_tubeAt (show l < 12 by omega), c_tubeAt (show f < 12 by omega), c_diff g i3 (show f < cnt (M0.1 1) by omega)]
      · rw [ms, ob_some, if_pos (by rw [show (2 : Int32) = nI 2 from rfl, nI_leI (by omega) (by omega)]; omega), o1', ob_some]
        rw [show enc (some f) = nI f from rfl, k1]
        rfl
end RING
