/-! HISTORY: keeping -/
section SG
variable {G : GlbS} {c k c2 k2 : Nat} {v : Int32}
theorem sg_at : (sg G c k v) c k = v := by unfold sg; simp only [va_up_self]
theorem sg_c (h : c2 ≠ c) : (sg G c k v) c2 = G c2 := by unfold sg; exact va_up_ne _ _ h
theorem sg_ne (h : c2 ≠ c ∨ k2 ≠ k) : (sg G c k v) c2 k2 = G c2 k2 := by
  unfold sg
  by_cases q : c2 = c
  · subst q
    rw [va_up_self, va_up_ne _ _ (by rcases h with h | h; exact absurd rfl h; exact h)]
  · rw [va_up_ne _ _ q]
end SG
theorem cpy_a2 {α : Type} {f g : Nat → α} {b d n k : Nat} (h : k < n) : va_cpy f g b d n (d + k) = f (b + k) := by rw [cpy_at (by omega), Nat.add_sub_cancel_left]
def MFr (M' M : RowS) : Prop := (∀ c, c ≠ 0 → c ≠ 4 → M'.1 c = M.1 c) ∧ (∀ c, c ≠ 8 → M'.2 c = M.2 c) ∧ (∀ k, k ≠ 9 → M'.1 0 k = M.1 0 k)
theorem fm_dec : ∀ i, i < 21 → f_J9_floorMod_7cf53 (nI i) 10 = some (nI (i % 10)) := by decide +kernel
def KM (M : RowS) (u : Nat) : RowS := si (va_up M.1 4 (va_cpy (M.1 1) (M.1 4) 0 (102 * u) 102), va_up M.2 8 (va_cpy (M.2 5) (M.2 8) 0 (6 * u) 6)) 0 9 (nI (u + 1))
theorem km_1 {M : RowS} {u c : Nat} (h0 : c ≠ 0) (h4 : c ≠ 4) : (KM M u).1 c = M.1 c := by
  unfold KM si
  simp only [va_up_ne _ _ h0, va_up_ne _ _ h4]
theorem km_2 {M : RowS} {u c : Nat} (h8 : c ≠ 8) : (KM M u).2 c = M.2 c := by
  unfold KM si
  simp only [va_up_ne _ _ h8]
theorem km_0 {M : RowS} {u k : Nat} (hk : k ≠ 9) : (KM M u).1 0 k = M.1 0 k := by
  unfold KM
  rw [si_ne (Or.inr hk)]
  simp only [va_up_ne _ _ (show 0 ≠ 4 by decide)]
theorem km_9 {M : RowS} {u : Nat} : (KM M u).1 0 9 = nI (u + 1) := by unfold KM; exact si_at
theorem km_4 {M : RowS} {u : Nat} (x : Nat) : (KM M u).1 4 x = va_cpy (M.1 1) (M.1 4) 0 (102 * u) 102 x := by
  unfold KM
  rw [si_ne (Or.inl (by decide))]
  simp only [va_up_self]
theorem km_8 {M : RowS} {u : Nat} (x : Nat) : (KM M u).2 8 x = va_cpy (M.2 5) (M.2 8) 0 (6 * u) 6 x := by
  unfold KM si
  simp only [va_up_self]
theorem m_keep77 {M : RowS} {u : Nat} (hu : u < 10) (h : M.1 0 9 = nI u) : b_X8_keeps_77 200 M = some (KM M u) := by
  have e1 : (102 : Int32) * nI u = nI (102 * u) := by rw [show (102 : Int32) = nI 102 from rfl, pk_mul]
  have e2 : (6 : Int32) * nI u = nI (6 * u) := by rw [show (6 : Int32) = nI 6 from rfl, pk_mul]
  have c1 : f_X8_copies 200 M 1 102 0 4 1020 (nI (102 * u)) = _ := m_copies (M := M) (a := 1) (c := 4) (za := 102) (zc := 1020) (b := 0) (d := 102 * u) (n := 200) (by omega) (by omega) (by omega) (by omega) (by omega)
  unfold b_X8_keeps_77
  rw [h, e1, c1, ob_some, lt_eq]
  have e3 : (va_up M.1 4 (va_cpy (M.1 1) (M.1 4) 0 (102 * u) 102)) 0 9 = nI u := by rw [va_up_ne _ _ (by decide), h]
  have c2 : f_X8_copiesLongs 200 (va_up M.1 4 (va_cpy (M.1 1) (M.1 4) 0 (102 * u) 102), M.2) 5 6 0 8 60 (nI (6 * u)) = _ := m_copiesL (M := (va_up M.1 4 (va_cpy (M.1 1) (M.1 4) 0 (102 * u) 102), M.2)) (a := 5) (c := 8) (za := 6) (zc := 60) (b := 0) (d := 6 * u) (n := 200) (by omega) (by omega) (by omega) (by omega) (by omega)
  simp only [e3, e2]
  rw [c2, ob_some]
  simp only [lt, e3, nI_1]
  rfl
theorem m_shift {M : RowS} (h : M.1 0 9 = nI 9) : ∃ M', wloop (fun t : Int32 × RowS => l_X8_keeps_21 200 t.1 t.2) 200 (0, M) = some M' ∧ (∀ c, c ≠ 4 → M'.1 c = M.1 c) ∧ (∀ c, c ≠ 8 → M'.2 c = M.2 c) ∧ (∀ b, b < 9 → ∀ k, k < 102 → M'.1 4 (102 * b + k) = M.1 4 (102 * (b + 1) + k)) ∧ (∀ b, b < 9 → ∀ k, k < 6 → M'.2 8 (6 * b + k) = M.2 8 (6 * (b + 1) + k)) := by
  refine wl_rel (f := fun t : Int32 × RowS => l_X8_keeps_21 200 t.1 t.2) (fun i s => s.1 = nI i ∧ (∀ c, c ≠ 4 → s.2.1 c = M.1 c) ∧ (∀ c, c ≠ 8 → s.2.2 c = M.2 c) ∧ (∀ b, b < i → ∀ k, k < 102 → s.2.1 4 (102 * b + k) = M.1 4 (102 * (b + 1) + k)) ∧ (∀ b, b < i → ∀ k, k < 6 → s.2.2 8 (6 * b + k) = M.2 8 (6 * (b + 1) + k)) ∧ (∀ x, 102 * i ≤ x → s.2.1 4 x = M.1 4 x) ∧ (∀ x, 6 * i ≤ x → s.2.2 8 x = M.2 8 x)) _ 9 (fun i s hi hs => ?_) (fun s hs => ?_) 9 0 200 (0, M) (by omega) (by omega) ⟨rfl, fun _ _ => rfl, fun _ _ => rfl, fun b hb => by omega, fun b hb => by omega, fun _ _ => rfl, fun _ _ => rfl⟩
  · obtain ⟨z, M1⟩ := s
    obtain ⟨g1, g2, g3, g4, g5, g6, g7⟩ := hs
    simp only at g1 g2 g3 g4 g5 g6 g7
    subst g1
    have e1 : (102 : Int32) * nI i = nI (102 * i) := by rw [show (102 : Int32) = nI 102 from rfl, pk_mul]
    have e2 : (6 : Int32) * nI i = nI (6 * i) := by rw [show (6 : Int32) = nI 6 from rfl, pk_mul]
    have e3 : (102 : Int32) * nI (i + 1) = nI (102 * (i + 1)) := by rw [show (102 : Int32) = nI 102 from rfl, pk_mul]
    have e4 : (6 : Int32) * nI (i + 1) = nI (6 * (i + 1)) := by rw [show (6 : Int32) = nI 6 from rfl, pk_mul]
    have c1 := m_copies (M := M1) (a := 4) (c := 4) (za := 1020) (zc := 1020) (b := 102 * (i + 1)) (d := 102 * i) (n := 200) (by omega) (by omega) (by omega) (by omega) (by omega)
    have c2 := m_copiesL (M := (va_up M1.1 4 (va_cpy (M1.1 4) (M1.1 4) (102 * (i + 1)) (102 * i) 102), M1.2)) (a := 8) (c := 8) (za := 60) (zc := 60) (b := 6 * (i + 1)) (d := 6 * i) (n := 200) (by omega) (by omega) (by omega) (by omega) (by omega)
    obtain ⟨M2, hM2⟩ : ∃ M2 : RowS, M2 = (va_up M1.1 4 (va_cpy (M1.1 4) (M1.1 4) (102 * (i + 1)) (102 * i) 102), va_up M1.2 8 (va_cpy (M1.2 8) (M1.2 8) (6 * (i + 1)) (6 * i) 6)) := ⟨_, rfl⟩
    have m1 : ∀ c, c ≠ 4 → M2.1 c = M1.1 c := fun c hc => by rw [hM2]; simp only [va_up_ne _ _ hc]
    have m2 : ∀ c, c ≠ 8 → M2.2 c = M1.2 c := fun c hc => by rw [hM2]; simp only [va_up_ne _ _ hc]
    have m4 : ∀ x, M2.1 4 x = va_cpy (M1.1 4) (M1.1 4) (102 * (i + 1)) (102 * i) 102 x := fun x => by rw [hM2]; simp only [va_up_self]
    have m8 : ∀ x, M2.2 8 x = va_cpy (M1.2 8) (M1.2 8) (6 * (i + 1)) (6 * i) 6 x := fun x => by rw [hM2]; simp only [va_up_self]
    refine ⟨(nI (i + 1), M2), ?_, rfl, fun c hc => (m1 c hc).trans (g2 c hc), fun c hc => (m2 c hc).trans (g3 c hc), fun b hb k hk => ?_, fun b hb k hk => ?_, fun x hx => ?_, fun x hx => ?_⟩
    · show l_X8_keeps_21 200 (nI i) M1 = _
      unfold l_X8_keeps_21
      rw [g2 0 (by decide), h, if_neg (by rw [nI_leI (by omega) (by omega)]; omega), nI_1, e1, e3, c1, ob_some, lt_eq, e2, e4, c2, ob_some]
      simp only [lt]
      rw [hM2]
    · refine (m4 _).trans ?_
      by_cases q : b = i
      · subst q
        rw [cpy_a2 (by omega), g6 _ (by omega)]
      · rw [cpy_no (by omega)]; exact g4 b (by omega) k hk
    · refine (m8 _).trans ?_
      by_cases q : b = i
      · subst q
        rw [cpy_a2 (by omega), g7 _ (by omega)]
      · rw [cpy_no (by omega)]; exact g5 b (by omega) k hk
    · refine (m4 _).trans ?_
      rw [cpy_no (by omega)]; exact g6 x (by omega)
    · refine (m8 _).trans ?_
      rw [cpy_no (by omega)]; exact g7 x (by omega)
  · obtain ⟨z, M1⟩ := s
    obtain ⟨g1, g2, g3, g4, g5, g6, g7⟩ := hs
    simp only at g1 g2 g3 g4 g5 g6 g7
    subst g1
    refine ⟨M1, ?_, g2, g3, g4, g5⟩
    show l_X8_keeps_21 200 (nI 9) M1 = _
    unfold l_X8_keeps_21
    rw [g2 0 (by decide), h, if_pos (by decide)]
theorem keep_ok {P : RowsS} {G : GlbS} {M : RowS} (I : Inv P G M) : ∃ P' G' M', f_X0_keep 200 P G 0 = some (P', G') ∧ f_X8_keeps 200 M = some M' ∧ (∀ r, r < 3 → P' r = P r) ∧ (∀ c, c ≠ 1 → G' c = G c) ∧ MFr M' M ∧ IHist P' G' M' := by
  obtain ⟨o, c, h1, h2, h3, h4, h5, h6⟩ := I.2.1
  have g := I.1
  have hc := cnt_le g.1
  have hat : (o + c) % 10 < 10 := Nat.mod_lt _ (by decide)
  obtain ⟨R', k1, k2⟩ := c_copy (R := P ((o + c) % 10 + 3)) (R2 := P 0) (c := cnt (M.1 1)) (n := 200) (by omega) hc (by rw [g.2.2.2.2.1.2.2.1, n2 g.1])
  have gR := good_same k2 g
  have st : f_X0_keep 200 P G 0 = b_X0_keep_38 (va_up P ((o + c) % 10 + 3) R') G := by
    unfold f_X0_keep
    rw [h3, h4, nI_add, fm_dec _ (by omega), ob_some, if_neg (nI_pos (by omega)), show (10 : Int32) = nI 10 from rfl, if_neg (by rw [nI_leI (by omega) (by omega)]; omega), nI_clamp (by omega), if_pos (by omega), k1, ob_some, lt_eq]
  by_cases hc10 : c < 10
  · have mk := m_keep77 hc10 h5
    refine ⟨va_up P ((o + c) % 10 + 3) R', sg G 1 2 (nI (c + 1)), KM M c, ?_, ?_, fun r hr => va_up_ne _ _ (by omega), fun d hd => sg_c hd, ?_, ?_⟩
    · rw [st]
      unfold b_X0_keep_38
      rw [h4, show (10 : Int32) = nI 10 from rfl, if_neg (by rw [nI_leI (by omega) (by omega)]; omega), nI_1, lt_eq]
    · unfold f_X8_keeps
      rw [h5, show (10 : Int32) = nI 10 from rfl, if_neg (by rw [nI_eq (by omega) (by omega)]; omega), mk]
    · exact ⟨fun d d0 d4 => km_1 d0 d4, fun d d8 => km_2 d8, fun k hk => km_0 hk⟩
    · refine ⟨o, c + 1, h1, by omega, ?_, sg_at, km_9, fun i hi => ?_⟩
      · rw [sg_ne (Or.inr (by decide))]; exact h3
      · have a4 := km_4 (M := M) (u := c)
        have a8 := km_8 (M := M) (u := c)
        by_cases q : i = c
        · subst q
          refine ⟨M.1 1, M.2 5, by rw [va_up_self]; exact gR, fun k hk => ?_, fun k hk => ?_⟩
          · rw [a4, cpy_a2 (by omega), Nat.zero_add]
          · rw [a8, cpy_a2 (by omega), Nat.zero_add]
        · obtain ⟨N', S', i1, i2, i3⟩ := h6 i (by omega)
          refine ⟨N', S', by rw [va_up_ne _ _ (by omega)]; exact i1, fun k hk => ?_, fun k hk => ?_⟩
          · rw [a4, cpy_no (by omega)]; exact i2 k hk
          · rw [a8, cpy_no (by omega)]; exact i3 k hk
  · have hc' : c = 10 := by omega
    subst hc'
    have hM9 : (si M 0 9 (nI 9)).1 0 9 = nI 9 := si_at
    obtain ⟨M1, s1, s2, s3, s4, s5⟩ := m_shift hM9
    have mk := m_keep77 (M := M1) (u := 9) (by omega) (by rw [s2 0 (by decide)]; exact hM9)
    have e1 : M1.1 1 = M.1 1 := by rw [s2 1 (by decide)]; rfl
    have e5 : M1.2 5 = M.2 5 := by rw [s3 5 (by decide)]; rfl
    refine ⟨va_up P ((o + 10) % 10 + 3) R', sg G 1 1 (nI ((o + 1) % 10)), KM M1 9, ?_, ?_, fun r hr => va_up_ne _ _ (by omega), fun d hd => sg_c hd, ?_, ?_⟩
    · rw [st]
      unfold b_X0_keep_38
      rw [h4, if_pos (by decide), h3, nI_1, fm_dec _ (by omega), ob_some, lt_eq]
    · unfold f_X8_keeps
      rw [h5, if_pos (by decide), show nI 10 - 1 = nI 9 from rfl, lt_eq, s1, ob_some, mk]
    · refine ⟨fun d d0 d4 => ?_, fun d d8 => ?_, fun k hk => ?_⟩
      · rw [km_1 d0 d4, s2 d d4]
        unfold si
        simp only [va_up_ne _ _ d0]
      · rw [km_2 d8, s3 d d8]
        rfl
      · rw [km_0 hk, s2 0 (by decide), si_ne (Or.inr hk)]
    · refine ⟨(o + 1) % 10, 10, by omega, by omega, sg_at, ?_, km_9, fun i hi => ?_⟩
      · rw [sg_ne (Or.inr (by decide))]; exact h4
      · have a4 := km_4 (M := M1) (u := 9)
        have a8 := km_8 (M := M1) (u := 9)
        by_cases q : i = 9
        · subst q
          have eP : ((o + 1) % 10 + 9) % 10 + 3 = (o + 10) % 10 + 3 := by omega
          refine ⟨M.1 1, M.2 5, by rw [eP, va_up_self]; exact gR, fun k hk => ?_, fun k hk => ?_⟩
          · rw [a4, cpy_a2 (by omega), Nat.zero_add, e1]
          · rw [a8, cpy_a2 (by omega), Nat.zero_add, e5]
        · obtain ⟨N', S', i1, i2, i3⟩ := h6 (i + 1) (by omega)
          have eP : ((o + 1) % 10 + i) % 10 + 3 = (o + (i + 1)) % 10 + 3 := by omega
          refine ⟨N', S', by rw [eP, va_up_ne _ _ (by omega)]; exact i1, fun k hk => ?_, fun k hk => ?_⟩
          · rw [a4, cpy_no (by omega), s4 i (by omega) k hk]
            exact i2 k hk
          · rw [a8, cpy_no (by omega), s5 i (by omega) k hk]
            exact i3 k hk
