/-! QUERY 8: after an error; what is pending -/
theorem go_x {G : GlbS} (h : ¬ G 3 7 = 0) : f_X5_goesOn G = false := by
  unfold f_X5_goesOn
  rw [if_neg h]
theorem loopC_x {G : GlbS} {R : RowS} {ff : RowS → GlbS → Int32 → Option (Int32 × GlbS)} {a z it : Int32} {n : Nat} (h : f_X5_goesOn G = false) (hn : 0 < n) : wloop (fun t : Int32 × Int32 × GlbS => l_X2_conjunction_8 1000 ff R a t.1 t.2.1 t.2.2) n (z, it, G) = some (z, G) := by
  obtain ⟨n, rfl⟩ : ∃ k, n = k + 1 := ⟨n - 1, by omega⟩
  refine wl_en (f := fun t : Int32 × Int32 × GlbS => l_X2_conjunction_8 1000 ff R a t.1 t.2.1 t.2.2) (s := (z, it, G)) ?_
  show l_X2_conjunction_8 1000 ff R a z it G = _
  unfold l_X2_conjunction_8
  rw [h, lt_eq]
  by_cases c : 200 ≤ it
  · rw [if_pos c]
  · rw [if_neg c, if_neg (by decide)]
theorem loopT_x {G : GlbS} {R : RowS} {ff : RowS → GlbS → Int32 → Option (Int32 × GlbS)} {a z it : Int32} {n : Nat} (h : f_X5_goesOn G = false) (hn : 0 < n) : wloop (fun t : Int32 × Int32 × GlbS => l_X2_test_8 1000 ff R a t.1 t.2.1 t.2.2) n (z, it, G) = some (z, G) := by
  obtain ⟨n, rfl⟩ : ∃ k, n = k + 1 := ⟨n - 1, by omega⟩
  refine wl_en (f := fun t : Int32 × Int32 × GlbS => l_X2_test_8 1000 ff R a t.1 t.2.1 t.2.2) (s := (z, it, G)) ?_
  show l_X2_test_8 1000 ff R a z it G = _
  unfold l_X2_test_8
  rw [h, lt_eq]
  by_cases c : 200 ≤ it
  · rw [if_pos c]
  · rw [if_neg c, if_neg (by decide)]
section QCX2
variable {e : Nat} {R : RowS}
def CXO (e : Nat) (G : GlbS) (o : Option (Int32 × GlbS)) : Prop := ∃ held G', o = some (held, G') ∧ CX e G G'
theorem cx_conj {G : GlbS} {ff : RowS → GlbS → Int32 → Option (Int32 × GlbS)} {a : Int32} (h7 : ¬ G 3 7 = 0) (hf : CXO e G (ff R G a)) : CXO e G (f_X2_conjunction 1000 ff R G a) := by
  obtain ⟨held, G', a1, a2⟩ := hf
  unfold f_X2_conjunction
  rw [a1, ob_some, lt_eq, lt_eq, loopC_x (go_x (by show ¬ G' 3 7 = 0; rw [a2.2.1]; exact h7)) (by omega)]
  exact ⟨held, G', rfl, a2⟩
theorem cx_test {G : GlbS} {ff : RowS → GlbS → Int32 → Option (Int32 × GlbS)} {a : Int32} (h7 : ¬ G 3 7 = 0) (hf : CXO e G (ff R G a)) : CXO e G (f_X2_test 1000 ff R G a) := by
  obtain ⟨held, G', a1, a2⟩ := cx_conj h7 hf
  unfold f_X2_test
  rw [a1, ob_some, lt_eq, lt_eq, loopT_x (go_x (by show ¬ G' 3 7 = 0; rw [a2.2.1]; exact h7)) (by omega)]
  exact ⟨held, G', rfl, a2⟩
theorem cx_comparison {G : GlbS} {s p n : Nat} (h : CP e s p G) (h7 : ¬ G 3 7 = 0) (hn : n ≤ 12) (h2 : R.1 0 2 = nI n) : CXO e G (f_X2_comparison 1000 R G) := by
  obtain ⟨t1, G1, b1, b2⟩ := cx_operand (R := R) h h7
  obtain ⟨s1, p1, h1⟩ := b2.2.2.2
  obtain ⟨held, G', z1, z2⟩ := cx_cmp_rest (R := R) (t1 := t1) h1 (by rw [b2.2.1]; exact h7) hn h2
  unfold f_X2_comparison
  rw [b1, ob_some, lt_eq, lt_eq, lt_eq, lt_eq]
  exact ⟨held, G', z1, cx_t b2 z2⟩
theorem cx_factor {n : Nat} (hn : n ≤ 12) (h2 : R.1 0 2 = nI n) : ∀ k a (G : GlbS) (s p : Nat), 7 ≤ a + k → a ≤ 6 → CP e s p G → ¬ G 3 7 = 0 → CXO e G (f_X2_factor 1000 k R G (nI a)) := by
  intro k
  induction k with
  | zero => intro a G s p h1 h2; omega
  | succ k ih =>
    intro a G s p hk ha h h7
    show CXO e G (fb_X2_factor 1000 (f_X2_factor 1000 k) R G (nI a))
    obtain ⟨b, x1, _⟩ := c_word lw_not h
    have f31 : ∀ y : Bool, CXO e G (b_X2_factor_31 1000 (f_X2_factor 1000 k) R (nI a) y G) := by
      intro y
      unfold b_X2_factor_31
      by_cases c : a < 6
      · obtain ⟨G1, a1, a2⟩ := cx_adv h
        obtain ⟨s1, p1, h1⟩ := a2.2.2.2
        have h71 : ¬ G1 3 7 = 0 := by rw [a2.2.1]; exact h7
        rw [if_pos (by rw [show (6 : Int32) = nI 6 from rfl]; exact nI_lt c (by omega)), a1, ob_some, lt_eq, nI_1]
        cases y with
        | true =>
          obtain ⟨held, G2, b1, b2⟩ := ih (a + 1) G1 s1 p1 (by omega) (by omega) h1 h71
          rw [if_pos rfl, b1]
          exact ⟨_, G2, rfl, cx_t a2 b2⟩
        | false =>
          obtain ⟨held, G2, b1, b2⟩ := cx_test h71 (ih (a + 1) G1 s1 p1 (by omega) (by omega) h1 h71)
          obtain ⟨s2, p2, h2'⟩ := b2.2.2.2
          obtain ⟨G3, c1, c2⟩ := cx_takeSign h2' (by rw [b2.2.1]; exact h71) 41
          rw [if_neg (by decide), b1, ob_some, lt_eq, lt_eq, c1]
          exact ⟨_, G3, rfl, cx_t a2 (cx_t b2 c2)⟩
      · rw [if_neg (by rw [show (6 : Int32) = nI 6 from rfl]; exact nI_nlt (by omega) (by omega))]
        exact ⟨_, _, rfl, cx_fail h h7 3⟩
    unfold fb_X2_factor
    rw [x1, ob_some]
    cases b with
    | true => rw [if_pos rfl]; exact f31 true
    | false =>
      rw [if_neg (by decide), lt_eq]
      by_cases c : f_X5_isSign G 40 = true
      · rw [if_pos c]; exact f31 false
      · obtain ⟨held, G', z1, z2⟩ := cx_comparison (R := R) h h7 hn h2
        rw [if_neg c, z1]
        exact ⟨held, G', rfl, z2⟩
end QCX2
section PEND
variable {e : Nat} {G : GlbS} {M : RowS}
/-- in a conjunction an `and` may wait -/
def Pend (w c a : Nat) (M M1 : RowS) : Prop := (M1 = M ∧ St w c a M) ∨ ∃ b, c = b + 1 ∧ St (w + 1) b a M ∧ M.1 24 w = 24 ∧ M1 = popM M w b 24
theorem pend_st {w c a : Nat} {M1 : RowS} (h : Pend w c a M M1) : St w c a M1 := by
  rcases h with ⟨h1, h2⟩ | ⟨b, h1, h2, h3, h4⟩
  · rw [h1]; exact h2
  · rw [h1, h4]; exact pop_st h2.2.2
theorem pend_ts {w c a s p : Nat} {M1 : RowS} (h : Pend w c a M M1) (t : TS e s p G M) : TS e s p G M1 := by
  rcases h with ⟨h1, h2⟩ | ⟨b, h1, h2, h3, h4⟩
  · rw [h1]; exact t
  · rw [h4]; exact pop_ts t
theorem pend_24 {w c a : Nat} {M1 : RowS} (h : Pend w c a M M1) : M1.1 24 = M.1 24 := by
  rcases h with ⟨h1, h2⟩ | ⟨b, h1, h2, h3, h4⟩
  · rw [h1]
  · rw [h4]; exact pop_24
theorem pend_mq {w c a : Nat} {M1 : RowS} (h : Pend w c a M M1) : MQf M M1 := by
  rcases h with ⟨h1, h2⟩ | ⟨b, h1, h2, h3, h4⟩
  · rw [h1]; exact mq_r
  · rw [h4]; exact pop_mq
theorem pend_set {w c a n : Nat} {y : Int32} {M1 : RowS} (h : Pend w c a M M1) (hg : M.1 0 19 = 0) (hw : w < 199) (hc : c < 200) (hy : ¬ (2 : Int32) < y) (hn : 1 < n) : ∃ n', n ≤ n' + 1 ∧ n' ≤ n ∧ wloop (fun t : RowS => l_X8_settles__0 y t) n M = wloop (fun t : RowS => l_X8_settles__0 y t) n' M1 := by
  rcases h with ⟨h1, h2⟩ | ⟨b, h1, h2, h3, h4⟩
  · exact ⟨n, by omega, by omega, by rw [h1]⟩
  · obtain ⟨n, rfl⟩ : ∃ k, n = k + 1 := ⟨n - 1, by omega⟩
    have hs := set_top (y := y) hg h2 (by omega) (by omega)
    rw [h3, str_24, if_neg hy, if_neg (by decide), ← h4] at hs
    exact ⟨n, by omega, by omega, wl_st (f := fun t : RowS => l_X8_settles__0 y t) hs⟩
theorem set_end {w c a n : Nat} {y : Int32} (hg : M.1 0 19 = 0) (st : St w c a M) (hw : w ≤ 200) (hc : c < 200) (k : Weak y w M) (hn : 0 < n) : wloop (fun t : RowS => l_X8_settles__0 y t) n M = some M := by
  obtain ⟨n, rfl⟩ : ∃ k, n = k + 1 := ⟨n - 1, by omega⟩
  exact wl_en (f := fun t : RowS => l_X8_settles__0 y t) (set_stop hg st hw hc k)
theorem sets_of {y : Int32} {M1 : RowS} (h : wloop (fun t : RowS => l_X8_settles__0 y t) 1000 M = some M1) : f_X8_settles_ 1000 M y = some M1 := by
  unfold f_X8_settles_
  rw [h]
  rfl
theorem goesIn_ok {s p w c a : Nat} {y : Int32} (h : TS e s p G M) (st : St w c a M) (ha : a < 6) (hw : w < 200) : ∃ G' M2 q r, f_X5_advance 1000 G = some G' ∧ f_X8_goesIn 1000 M y = some (true, M2) ∧ p ≤ q ∧ TS e q r G' M2 ∧ GF G G' ∧ MQf M M2 ∧ St (w + 1) c (a + 1) M2 ∧ M2.1 24 w = y ∧ (∀ i, i < w → M2.1 24 i = M.1 24 i) ∧ M2.1 23 = M.1 23 := by
  obtain ⟨M1, hM1⟩ : ∃ M1, M1 = si (si (si M 0 28 (nI (a + 1))) 24 w y) 0 27 (nI (w + 1)) := ⟨_, rfl⟩
  have h1 : TS e s p G M1 := by
    rw [hM1]
    exact ts_si (ts_si (ts_si h (Or.inr (Or.inr ⟨rfl, Or.inr (Or.inr rfl)⟩))) (Or.inr (Or.inl rfl))) (Or.inr (Or.inr ⟨rfl, Or.inr (Or.inl rfl)⟩))
  have m1 : MQf M M1 := by
    rw [hM1]
    exact mq_t (mq_t (mq_si (Or.inr (Or.inr ⟨rfl, Or.inr (Or.inr rfl)⟩))) (mq_si (Or.inr (Or.inl rfl)))) (mq_si (Or.inr (Or.inr ⟨rfl, Or.inr (Or.inl rfl)⟩)))
  have s1 : St (w + 1) c (a + 1) M1 := by
    rw [hM1]
    exact ⟨si_at, by rw [si_ne (Or.inr (by decide)), si_ne (Or.inl (by decide)), si_ne (Or.inr (by decide))]; exact st.2.1, by rw [si_ne (Or.inr (by decide)), si_ne (Or.inl (by decide))]; exact si_at⟩
  obtain ⟨G', M2, q, r, a1, a2, a3, a4, a5, a6⟩ := adv_ts h1
  refine ⟨G', M2, q, r, a1, ?_, a3, a4, a5, mq_t m1 (mf_q a6), st_mf s1 a6, ?_, fun i hi => ?_, ?_⟩
  · have x27 : (si M 0 28 (nI (a + 1))).1 0 27 = nI w := by rw [si_ne (Or.inr (by decide))]; exact st.1
    have y27 : (si (si M 0 28 (nI (a + 1))) 24 w y).1 0 27 = nI w := by rw [si_ne (Or.inl (by decide))]; exact x27
    unfold f_X8_goesIn
    rw [st.2.2, if_neg (by intro z; have := congrArg Int32.toInt z; rw [nI_toInt (by omega), show (6 : Int32).toInt = 6 from rfl] at this; omega), lt_eq, nI_1, x27, if_pos (by rw [nI_toInt (by omega)]; omega), nI_clamp (by omega), lt_eq, y27, nI_1, lt_eq, ← hM1, a2]
    rfl
  · rw [a6.1 24 (by decide), hM1, si_c (by decide), si_at]
  · rw [a6.1 24 (by decide), hM1, si_c (by decide), si_ne (Or.inr (by omega)), si_c (by decide)]
  · rw [a6.1 23 (by decide), hM1, si_c (by decide), si_c (by decide), si_c (by decide)]
end PEND
