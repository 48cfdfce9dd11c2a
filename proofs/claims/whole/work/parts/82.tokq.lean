/-! TOKENS 6: numbers, and words taken -/
section TOKQ
variable {e m : Nat} {G : GlbS} {M : RowS}
def NumO (e m : Nat) (G : GlbS) (M : RowS) (lo hi : Int) (c : Option (Int32 × GlbS)) (d : Option (Int32 × RowS)) : Prop :=
  ∃ v w G' M', c = some (v, G') ∧ d = some (w, M') ∧ TO e m G M G' M' ∧ bd v lo hi ∧ bd w lo hi ∧ (M'.1 0 19 = 0 → v = w)
theorem t_num {lo hi : Int32} (hl : lo.toInt ≤ hi.toInt) (h : TT e m G M) : NumO e m G M lo.toInt hi.toInt (f_X5_takeNumber 1000 G lo hi) (f_X8_number 1000 M lo hi) := by
  have hlo : bd lo lo.toInt hi.toInt := by unfold bd; omega
  have bad : ∀ {k : Int32}, ¬ k = 0 → M.1 0 19 = 0 → ∃ M', f_X8_wrongs M k = (false, M') ∧ NumO e m G M lo.toInt hi.toInt (some (lo, f_X5_fail G k)) (b_X8_number_47 1000 lo M') := by
    intro k hk hg
    obtain ⟨M', g1, g2, g3⟩ := t_failo h hk m
    refine ⟨M', g1, lo, lo, _, M', rfl, ?_, g2, hlo, hlo, fun _ => rfl⟩
    unfold b_X8_number_47
    rw [good_f g3, lt_eq, if_neg (by decide)]
  have bad2 : ∀ (k : Int32), ¬ k = 0 → M.1 0 19 = 0 → NumO e m G M lo.toInt hi.toInt (some (lo, f_X5_fail G k)) (b_X8_number_47 1000 lo (f_X8_wrongs M k).2) := by
    intro k hk hg
    obtain ⟨M', g1, g2⟩ := bad hk hg
    rw [g1]
    exact g2
  rcases h with ⟨s, p, hm, h⟩ | h
  · have hg := ts_19 (m := 0) h
    unfold f_X5_takeNumber f_X8_number b_X5_takeNumber_30
    rw [good_t hg]
    simp only [lt, tt_t]
    have neg : ∀ {v w : Int32}, G 3 5 = v → M.1 0 16 = w → ¬ v = 2 → ¬ w = 2 → NumO e m G M lo.toInt hi.toInt (if G 3 5 = 2 then (if G 3 6 < lo then some (lo, f_X5_fail G 2) else if G 3 6 ≤ hi then ob (f_X5_advance 1000 G) fun x7 => some (G 3 6, x7) else some (lo, f_X5_fail G 2)) else some (lo, f_X5_fail G 1)) (if M.1 0 16 = 2 then (if f_X8_in (M.1 0 17).toInt64 lo.toInt64 hi.toInt64 = true then b_X8_number_47 1000 lo M else b_X8_number_47 1000 lo (f_X8_wrongs M 2).2) else b_X8_number_47 1000 lo (f_X8_wrongs M 1).2) := by
      intro v w k1 k2 k3 k4
      rw [k1, k2, if_neg k3, if_neg k4]
      exact bad2 1 (by decide) hg
    show NumO e m G M lo.toInt hi.toInt (if G 3 5 = 2 then (if G 3 6 < lo then some (lo, f_X5_fail G 2) else if G 3 6 ≤ hi then ob (f_X5_advance 1000 G) fun x7 => some (G 3 6, x7) else some (lo, f_X5_fail G 2)) else some (lo, f_X5_fail G 1)) (if M.1 0 16 = 2 then (if f_X8_in (M.1 0 17).toInt64 lo.toInt64 hi.toInt64 = true then b_X8_number_47 1000 lo M else b_X8_number_47 1000 lo (f_X8_wrongs M 2).2) else b_X8_number_47 1000 lo (f_X8_wrongs M 1).2)
    rcases h.2.2.2.2 with ⟨k1, k2, k3⟩ | ⟨k1, k2, k3, k4, k5⟩ | ⟨k1, k2, k3, v, k4, k5, k6⟩ | ⟨k1, k2, k3⟩
    · exact neg k1 k2 (by decide) (by decide)
    · exact neg k1 k2 (by decide) (by decide)
    · rw [if_pos k1, if_pos k2, k6, k5]
      by_cases c1 : nI v < lo
      · rw [if_pos c1, if_neg (by rw [in_f (by rw [i32_ext, i32_ext]; rw [i32_lt] at c1; omega)]; decide)]
        exact bad2 2 (by decide) hg
      · rw [if_neg c1]
        by_cases c2 : nI v ≤ hi
        · rw [if_pos c2, if_pos (in_iff.mpr (by rw [i32_ext, i32_ext, i32_ext]; rw [i32_lt] at c1; rw [i32_le] at c2; omega))]
          obtain ⟨G', M', g1, g2, g3⟩ := t_adv h
          unfold b_X8_number_47
          rw [good_t hg, lt_eq, if_pos rfl, g1, g2, k6]
          have hb : bd (nI v) lo.toInt hi.toInt := by unfold bd; rw [i32_lt] at c1; rw [i32_le] at c2; omega
          exact ⟨nI v, nI v, G', M', rfl, rfl, ⟨g3.1, g3.2.1, tt_le g3.2.2.1 (by have := h.1.2.2.2.1; omega), g3.2.2.2⟩, hb, hb, fun _ => rfl⟩
        · rw [if_neg c2, if_neg (by rw [in_f (by rw [i32_ext, i32_ext, i32_ext]; rw [i32_le] at c2; omega)]; decide)]
          exact bad2 2 (by decide) hg
    · exact neg k1 k2 (by decide) (by decide)
  · obtain ⟨s, p, hp⟩ := h.1
    obtain ⟨v, G', g1, g2, g3⟩ := cx_takeNumber hp h.2.1 hl
    refine ⟨v, lo, G', M, g1, ?_, to_x h g2, g3, hlo, fun z => absurd z (tx_19 h)⟩
    unfold f_X8_number
    rw [good_f (tx_19 h), lt_eq, if_neg (by decide)]
theorem bd_neg {v : Int32} (h : bd v 0 9999) : bd (-v) (-9999) 9999 := by
  unfold bd at h ⊢
  have e1 : (-v) = 0 - v := (Int32.zero_sub v).symm
  rw [e1, i32_sub (by rw [show (0 : Int32).toInt = 0 from rfl]; omega), show (0 : Int32).toInt = 0 from rfl]
  omega
theorem t_signed (h : TT e m G M) : NumO e m G M (-9999) 9999 (f_X5_takeSigned 1000 G) (f_X8_signed 1000 M) := by
  obtain ⟨b, s1, s2, s3, s4⟩ := t_sign (a := 45) (by unfold bd; decide) h
  have fin : ∀ (c d : Bool) (G1 : GlbS) (M1 : RowS), (M1.1 0 19 = 0 → c = d) → TO e m G M G1 M1 → NumO e m G M (-9999) 9999 (b_X5_takeSigned_15 1000 c G1) (b_X8_signed_15 1000 d M1) := by
    intro c d G1 M1 hcd h1
    obtain ⟨v, w, G', M', n1, n2, n3, n4, n5, n6⟩ := t_num (e := e) (m := m) (G := G1) (M := M1) (lo := 0) (hi := 9999) (by decide) h1.2.2.1
    unfold b_X5_takeSigned_15 b_X8_signed_15
    rw [n1, n2, ob_some, ob_some, lt_eq, lt_eq, lt_eq, lt_eq]
    have n4 : bd v 0 9999 := n4
    have n5 : bd w 0 9999 := n5
    have wide : ∀ {x : Int32}, bd x 0 9999 → bd x (-9999) 9999 := fun hx => by unfold bd at hx ⊢; omega
    have tt := to_t h1 n3
    cases c with
    | true =>
      cases d with
      | true => exact ⟨_, _, G', M', rfl, rfl, tt, bd_neg n4, bd_neg n5, fun z => by rw [n6 z]⟩
      | false => exact ⟨_, _, G', M', rfl, rfl, tt, bd_neg n4, wide n5, fun z => by cases hcd (n3.2.2.2 z)⟩
    | false =>
      cases d with
      | true => exact ⟨_, _, G', M', rfl, rfl, tt, wide n4, bd_neg n5, fun z => by cases hcd (n3.2.2.2 z)⟩
      | false => exact ⟨_, _, G', M', rfl, rfl, tt, wide n4, wide n5, fun z => n6 z⟩
  unfold f_X5_takeSigned f_X8_signed
  rw [s1, ob_some, lt_eq]
  rcases h with ⟨s, p, hm, h⟩ | h
  · have hg := ts_19 (m := 0) h
    rw [s2 hg]
    cases b with
    | true =>
      obtain ⟨G', M', g1, g2, g3⟩ := t_adv h
      rw [if_pos rfl, if_pos rfl, g1, g2]
      exact fin true true G' M' (fun _ => rfl) ⟨g3.1, g3.2.1, tt_le g3.2.2.1 (by have := h.1.2.2.2.1; omega), g3.2.2.2⟩
    | false =>
      rw [if_neg (by decide), if_neg (by decide)]
      exact fin false false G M (fun _ => rfl) ⟨gf_r, mf_r, Or.inl ⟨s, p, hm, h⟩, fun z => z⟩
  · have hb := s3 (tx_19 h)
    subst hb
    rw [if_neg (c := (false = true)) (by decide)]
    cases hs : f_X5_isSign G 45 with
    | true =>
      obtain ⟨s, p, hp⟩ := h.1
      obtain ⟨G', g1, g2⟩ := cx_adv hp
      rw [if_pos rfl, g1]
      exact fin true false G' M (fun z => absurd z (tx_19 h)) (to_x h g2)
    | false =>
      rw [if_neg (by decide)]
      exact fin false false G M (fun _ => rfl) ⟨gf_r, mf_r, Or.inr h, fun z => z⟩
/-- a word asked for, and passed if it is there -/
theorem t_pass {i L : Nat} {t : Int64} (hW : LW i L t) (h : TT e m G M) : ∃ b c M', f_X5_isWord 1000 G i = some b ∧ f_X8_passes 1000 M t = some (c, M') ∧ (M.1 0 19 = 0 → c = b) ∧ (c = false → M' = M) ∧ (c = true → ∃ G', f_X5_advance 1000 G = some G' ∧ TO e m G M G' M') ∧ (¬ M.1 0 19 = 0 → c = false) := by
  obtain ⟨b, w1, w2, w3⟩ := t_word hW h
  unfold f_X8_passes
  rw [lt_eq]
  rcases h with ⟨s, p, hm, h⟩ | h
  · have hg := ts_19 (m := 0) h
    rw [w2 hg]
    cases b with
    | true =>
      obtain ⟨G', M', g1, g2, g3⟩ := t_adv h
      rw [if_pos rfl, g2]
      exact ⟨true, true, M', w1, rfl, fun _ => rfl, fun z => (by cases z), fun _ => ⟨G', g1, g3.1, g3.2.1, tt_le g3.2.2.1 (by have := h.1.2.2.2.1; omega), g3.2.2.2⟩, fun z => absurd hg z⟩
    | false =>
      rw [if_neg (by decide)]
      exact ⟨false, false, M, w1, rfl, fun _ => rfl, fun _ => rfl, fun z => (by cases z), fun _ => rfl⟩
  · rw [w3 (tx_19 h), if_neg (by decide)]
    exact ⟨b, false, M, w1, rfl, fun z => absurd z (tx_19 h), fun _ => rfl, fun z => (by cases z), fun _ => rfl⟩
theorem cx_takeWord {i L s p : Nat} {t : Int64} (hW : LW i L t) (h : CP e s p G) (h7 : ¬ G 3 7 = 0) : ∃ G', f_X5_takeWord 1000 G i = some G' ∧ CX e G G' := by
  obtain ⟨b, w1, w2⟩ := c_word hW h
  unfold f_X5_takeWord
  rw [w1, ob_some]
  cases b with
  | true =>
    obtain ⟨G', g1, g2⟩ := cx_adv h
    rw [if_pos rfl, g1]
    exact ⟨G', rfl, g2⟩
  | false =>
    rw [if_neg (by decide)]
    exact ⟨_, rfl, cx_fail h h7 1⟩
theorem t_take {i L : Nat} {t : Int64} (hW : LW i L t) (h : TT e m G M) : ∃ G' c M', f_X5_takeWord 1000 G i = some G' ∧ f_X8_passes 1000 M t = some (c, M') ∧ ((c = true ∧ TO e m G M G' M') ∨ (c = false ∧ ∃ M2, f_X8_wrongs M' 1 = (false, M2) ∧ TO e m G M G' M2 ∧ ¬ M2.1 0 19 = 0)) := by
  obtain ⟨b, c, M', p1, p2, p3, p4, p5, p6⟩ := t_pass hW h
  by_cases hg : M.1 0 19 = 0
  · have hc := p3 hg
    unfold f_X5_takeWord
    rw [p1, ob_some]
    subst hc
    cases c with
    | true =>
      obtain ⟨G', g1, g2⟩ := p5 rfl
      rw [if_pos rfl, g1]
      exact ⟨G', true, M', rfl, p2, Or.inl ⟨rfl, g2⟩⟩
    | false =>
      obtain ⟨M2, g1, g2, g3⟩ := t_failo h (c := 1) (by decide) m
      rw [if_neg (by decide)]
      exact ⟨_, false, M', rfl, p2, Or.inr ⟨rfl, M2, by rw [p4 rfl]; exact g1, g2, g3⟩⟩
  · rcases h with ⟨s, p, hm, h⟩ | h
    · exact absurd (ts_19 (m := 0) h) hg
    · obtain ⟨s, p, hp⟩ := h.1
      obtain ⟨G', g1, g2⟩ := cx_takeWord hW hp h.2.1
      have hc := p6 hg
      subst hc
      refine ⟨G', false, M', g1, p2, Or.inr ⟨rfl, M, ?_, to_x h g2, hg⟩⟩
      rw [p4 rfl]
      exact wr_x hg 1
end TOKQ
