/-! QUERY 10: tests -/
def PendT (w c a : Nat) (M' M2 : RowS) : Prop := ∃ M1, (Pend w c a M' M1 ∧ M2 = M1) ∨ (∃ b, c = b + 1 ∧ Pend (w + 1) b a M' M1 ∧ M'.1 24 w = 25 ∧ M2 = popM M1 w b 25)
def TOut (e : Nat) (N : Nat → Int32) (S : Nat → Int64) (w c a s : Nat) (run : Nat → Nat → Option RowS) (M : RowS) (G' : GlbS) (held : Int32) : Prop :=
  (∃ M', TX e G' M' ∧ MQf M M' ∧ ∀ i j, e < s + i → e < s + j → run i j = some M') ∨
  (∃ s' p' M' M1 d, TS e s' p' G' M' ∧ s ≤ s' ∧ c + d + w + 3 ≤ s' ∧ (f_X8_settles_ 1000 M' 1 = some M1 ∧ MQf M' M1) ∧ TS e s' p' G' M1 ∧ Got N S w c d a M M1 held ∧ (∃ b, f_X8_isInside 1000 M' = some b ∧ (b = true ↔ ∃ q, q < w ∧ M.1 24 q = 1)) ∧ f_X8_isWord M' 1111 = false ∧ f_X8_isWord M' 423 = false ∧ ∀ i j X, e < s + i → e < s + j → (∀ h j', e < s' + h → e < s' + j' → eB h j' M' = some X) → run i j = some X)
section TEST
variable {e k a : Nat} {R : RowS} {N : Nat → Int32} {S : Nat → Int64}
theorem weak_mono {w : Nat} {y y' : Int32} {M : RowS} (h : Weak y w M) (hy : y ≤ y') : Weak y' w M := by
  rcases h with h | h
  · exact Or.inl h
  · exact Or.inr (by rw [i32_lt] at h ⊢; rw [i32_le] at hy; omega)
theorem conj_ok (hf : FOK e N S R k a) (he : e ≤ 200) {w c s p : Nat} {G : GlbS} {M : RowS} (h : TS e s p G M) (st : St w c a M) (hb : c + w + 3 ≤ s) (hw : Weak 2 w M) : ∃ held G', f_X2_conjunction 1000 (f_X2_factor 1000 k) R G (nI a) = some (held, G') ∧ GF G G' ∧ COut e N S w c a s (fun i j => eA i j M) M G' held := by
  have hse : s ≤ e := by have := h.1.2.2.2; omega
  obtain ⟨h2, G2, f1, f2, f3⟩ := hf w c s p G M h st hb
  unfold f_X2_conjunction
  rw [f1, ob_some, lt_eq, lt_eq]
  rcases f3 with ⟨M9, e1, e2, e3⟩ | ⟨s2, p2, M3, d, t1, t2, t3, t4, t5⟩
  · refine ⟨h2, G2, ?_, f2, Or.inl ⟨M9, e1, e2, e3⟩⟩
    have := loopC_x (R := R) (ff := f_X2_factor 1000 k) (a := nI a) (z := h2) (it := 0) (n := 1000) (go_x e1.2.1) (by omega)
    rw [this]
    rfl
  · have hop : ∀ g h j, 0 < g → eS g h j M3 = eB h j M3 := fun g h j hgz => by
      obtain ⟨g, rfl⟩ : ∃ k, g = k + 1 := ⟨g - 1, by omega⟩
      exact eS_stop (ts_19 (m := 0) t1) t4.2.1 (by omega) (by have := t1.1.2.2.2; omega) (weak_mono (weak_eq hw t4.2.2.1) (by decide))
    obtain ⟨held, G', y1, y2, y3⟩ := conj_loop hf he 1000 w c d s2 p2 0 1000 h2 G2 M M3 M3 (by omega) t1 (Or.inl ⟨rfl, t4.2.1⟩) t4 t3 (by omega) (by omega) hw
    have y1 : wloop (fun t : Int32 × Int32 × GlbS => l_X2_conjunction_8 1000 (f_X2_factor 1000 k) R (nI a) t.1 t.2.1 t.2.2) 1000 (h2, 0, G2) = some (held, G') := y1
    rw [y1]
    refine ⟨held, G', rfl, gf_t f2 y2, ?_⟩
    rcases y3 with ⟨M9, e1, e2, e3⟩ | ⟨s', p', M4, M5, d', u1, u2, u3, u4, u5, u6, u7⟩
    · exact Or.inl ⟨M9, e1, e2, fun i j h1 h2 => t5 i j M9 h1 h2 (fun g h j' g1 g2 g3 => by rw [hop g h j' (by omega)]; exact e3 h j' g2 g3)⟩
    · exact Or.inr ⟨s', p', M4, M5, d', u1, by omega, u3, u4, u5, u6, fun i j X h1 h2 hX => t5 i j X h1 h2 (fun g h j' g1 g2 g3 => by rw [hop g h j' (by omega)]; exact u7 h j' X g2 g3 hX)⟩
theorem pendT_set {w c s p : Nat} {G : GlbS} {M' M2 : RowS} (h : PendT w c a M' M2) (ht : TS e s p G M') (hw : w < 198) (hc : c < 200) (k : Weak 1 w M2) : f_X8_settles_ 1000 M' 1 = some M2 ∧ TS e s p G M2 ∧ M2.1 24 = M'.1 24 := by
  have hg := ts_19 (m := 0) ht
  obtain ⟨M1, h | h⟩ := h
  · obtain ⟨h1, h2⟩ := h
    subst h2
    obtain ⟨n', n1, n2, n3⟩ := pend_set (n := 1000) (y := 1) h1 hg (by omega) (by omega) (by decide) (by omega)
    have h1' := pend_ts h1 ht
    exact ⟨sets_of (n3.trans (set_end (ts_19 (m := 0) h1') (pend_st h1) (by omega) (by omega) k (by omega))), h1', pend_24 h1⟩
  · obtain ⟨b, h1, h2, h3, h4⟩ := h
    obtain ⟨n', n1, n2, n3⟩ := pend_set (n := 1000) (y := 1) h2 hg (by omega) (by omega) (by decide) (by omega)
    have h1' := pend_ts h2 ht
    have h2' : TS e s p G M2 := by rw [h4]; exact pop_ts h1'
    have t24 : M1.1 24 w = 25 := by rw [pend_24 h2]; exact h3
    have hs := set_top (y := 1) (ts_19 (m := 0) h1') (pend_st h2) (by omega) (by omega)
    rw [t24, str_25, if_neg (by decide), if_neg (by decide), ← h4] at hs
    obtain ⟨n'', rfl⟩ : ∃ k, n' = k + 1 := ⟨n' - 1, by omega⟩
    have st2 : St w c a M2 := by rw [h4, h1]; exact pop_st (pend_st h2).2.2
    exact ⟨sets_of (n3.trans ((wl_st (f := fun t : RowS => l_X8_settles__0 1 t) hs).trans (set_end (ts_19 (m := 0) h2') st2 (by omega) (by omega) k (by omega)))), h2', by rw [h4, pop_24]; exact pend_24 h2⟩
theorem pendT_mq {w c a : Nat} {M M2 : RowS} (h : PendT w c a M M2) : MQf M M2 := by
  obtain ⟨M1, h | h⟩ := h
  · rw [h.2]; exact pend_mq h.1
  · obtain ⟨b, h1, h2, h3, h4⟩ := h
    rw [h4]; exact mq_t (pend_mq h2) pop_mq
theorem mq_s {M M' : RowS} (h : MQf M M') : MQf M' M := ⟨fun c h1 h2 h3 => (h.1 c h1 h2 h3).symm, fun c h1 => (h.2.1 c h1).symm, fun c h1 h2 h3 h4 h5 h6 h7 h8 h9 => (h.2.2 c h1 h2 h3 h4 h5 h6 h7 h8 h9).symm⟩
theorem pend_wait {w c a : Nat} {M M1 : RowS} (h : Pend w c a M M1) : ∃ v, w ≤ v ∧ v ≤ w + 1 ∧ M.1 0 27 = nI v ∧ ∀ q, w ≤ q → q < v → ¬ M.1 24 q = 1 := by
  rcases h with ⟨h1, h2⟩ | ⟨b, h1, h2, h3, h4⟩
  · exact ⟨w, by omega, by omega, h2.1, fun q q1 q2 => by omega⟩
  · refine ⟨w + 1, by omega, by omega, h2.1, fun q q1 q2 => ?_⟩
    have : q = w := by omega
    subst this
    rw [h3]
    decide
theorem pendT_wait {w c a : Nat} {M M2 : RowS} (h : PendT w c a M M2) : ∃ v, w ≤ v ∧ v ≤ w + 2 ∧ M.1 0 27 = nI v ∧ ∀ q, w ≤ q → q < v → ¬ M.1 24 q = 1 := by
  obtain ⟨M1, h | h⟩ := h
  · obtain ⟨v, v1, v2, v3, v4⟩ := pend_wait h.1
    exact ⟨v, v1, by omega, v3, v4⟩
  · obtain ⟨b, h1, h2, h3, h4⟩ := h
    obtain ⟨v, v1, v2, v3, v4⟩ := pend_wait h2
    refine ⟨v, by omega, by omega, v3, fun q q1 q2 => ?_⟩
    by_cases z : q = w
    · subst z; rw [h3]; decide
    · exact v4 q (by omega) q2
theorem test_loop (hf : FOK e N S R k a) (he : e ≤ 200) : ∀ n w c d s p it nC z G M M' M2, e < s + n → TS e s p G M' → PendT w (c + d) a M' M2 → Got N S w c d a M M2 z → c + d + w + 3 ≤ s → it ≤ s → e < s + nC → Weak 1 w M → f_X8_isWord M' 1111 = false → ∃ held G', wloop (fun t : Int32 × Int32 × GlbS => l_X2_test_8 1000 (f_X2_factor 1000 k) R (nI a) t.1 t.2.1 t.2.2) nC (z, nI it, G) = some (held, G') ∧ GF G G' ∧ TOut e N S w c a s (fun h j => eB h j M') M G' held := by
  intro n
  induction n with
  | zero =>
    intro w c d s p it nC z G M M' M2 hn h
    have := h.1.2.2.2
    omega
  | succ n ih =>
    intro w c d s p it nC z G M M' M2 hn h hp hG hb hit hnC hw hna
    have hse : s ≤ e := by have := h.1.2.2.2; omega
    have hg := ts_19 (m := 0) h
    have htt : TT e 0 G M' := Or.inl ⟨s, p, Nat.zero_le s, h⟩
    obtain ⟨hset, h2t, h24⟩ := pendT_set hp h (by omega) (by omega) (weak_eq hw hG.2.2.1)
    obtain ⟨b, x1, x2, _⟩ := t_word lw_or htt
    have x2 := x2 hg
    obtain ⟨nC, rfl⟩ : ∃ k, nC = k + 1 := ⟨nC - 1, by omega⟩
    cases b with
    | false =>
      have hin : ∃ b, f_X8_isInside 1000 M' = some b ∧ (b = true ↔ ∃ q, q < w ∧ M.1 24 q = 1) := by
        obtain ⟨v, v1, v2, v3, v4⟩ := pendT_wait hp
        obtain ⟨b, b1, b2⟩ := inside v3 (by omega)
        refine ⟨b, b1, b2.trans ⟨fun ⟨q, q1, q2⟩ => ?_, fun ⟨q, q1, q2⟩ => ⟨q, by omega, ?_⟩⟩⟩
        · by_cases zq : q < w
          · exact ⟨q, zq, by rw [← hG.2.2.1 q zq, h24]; exact q2⟩
          · exact absurd q2 (v4 q (by omega) q1)
        · rw [← h24, hG.2.2.1 q q1]; exact q2
      refine ⟨z, G, wl_en (f := fun t : Int32 × Int32 × GlbS => l_X2_test_8 1000 (f_X2_factor 1000 k) R (nI a) t.1 t.2.1 t.2.2) (s := (z, nI it, G)) ?_, gf_r, Or.inr ⟨s, p, M', M2, d, h, Nat.le_refl s, hb, ⟨hset, pendT_mq hp⟩, h2t, hG, hin, hna, x2, fun i j X h1 h2 hX => hX i j h1 h2⟩⟩
      show l_X2_test_8 1000 (f_X2_factor 1000 k) R (nI a) z (nI it) G = _
      unfold l_X2_test_8
      rw [x1, lt_eq]
      by_cases c1 : 200 ≤ nI it
      · rw [if_pos c1]
      · rw [if_neg c1]
        cases f_X5_goesOn G with
        | false => rw [if_neg (by decide)]
        | true => rw [if_pos rfl, ob_some, if_neg (by decide)]
    | true =>
      have hsp := word_lt lw_or h x2
      have hpe := h.1.2.2.2.2.1
      have hk := ((m_word lw_or h).mp x2).1
      have hgo : f_X5_goesOn G = true := by
        unfold f_X5_goesOn
        rw [h.2.1.1, if_pos rfl, hk, if_neg (by decide)]
      obtain ⟨G1, M3, q, r, a1, a2, a3, a4, a5, a6, a7, a8, a9, a10⟩ := push_ok (y := 25) h2t hG.2.1
      obtain ⟨h2, G2, f1, f2, f3⟩ := conj_ok hf he a4 a7 (by omega) (Or.inr (by rw [Nat.add_sub_cancel, a8, str_25]; decide))
      obtain ⟨b41, s1, s2, s3, s4⟩ := t_sign (a := 41) (by unfold bd; decide) htt
      have hb41 : b41 = false := by
        cases b41 with
        | false => rfl
        | true => have := s4 rfl; rw [hk] at this; exact absurd this (by decide)
      subst hb41
      have run : ∀ i j, eB (i + 1) (j + 1) M' = eA 1000 j M3 := fun i j => by
        rw [eB_no s1, eC_on (Or.inr ⟨hna, x2, rfl, rfl⟩) hset hG.2.1.1 (by omega) a2]
      have step : l_X2_test_8 1000 (f_X2_factor 1000 k) R (nI a) z (nI it) G = some (.inl (z ||| h2, nI (it + 1), G2)) := by
        unfold l_X2_test_8
        rw [if_neg (by rw [show (200 : Int32) = nI 200 from rfl, nI_leI (by omega) (by omega)]; omega), hgo, lt_eq, if_pos rfl, x1, ob_some, if_pos rfl, a1, ob_some, lt_eq, f1, ob_some, nI_1]
        rfl
      have wst := wl_st (n := nC) (f := fun t : Int32 × Int32 × GlbS => l_X2_test_8 1000 (f_X2_factor 1000 k) R (nI a) t.1 t.2.1 t.2.2) (s := (z, nI it, G)) step
      rcases f3 with ⟨M9, e1, e2, e3⟩ | ⟨s2', p2, M4, M5, d2, t1, t2, t3, t4, t5, t6, t7⟩
      · refine ⟨z ||| h2, G2, wst.trans (loopT_x (go_x e1.2.1) (by omega)), gf_t a5 f2, Or.inl ⟨M9, e1, mq_t (mq_t hG.1 a6) e2, fun i j h1 h2 => ?_⟩⟩
        obtain ⟨i, rfl⟩ : ∃ k, i = k + 1 := ⟨i - 1, by omega⟩
        obtain ⟨j, rfl⟩ : ∃ k, j = k + 1 := ⟨j - 1, by omega⟩
        show eB (i + 1) (j + 1) M' = some M9
        rw [run]
        exact e3 1000 j (by omega) (by omega)
      · have top : M4.1 24 w = 25 := by rw [← pend_24 t4, t5.2.2.1 w (by omega)]; exact a8
        have gj := got_join (y := 25) (r := z ||| h2) (fun x y => x || y) hG a6 a9 a10 t5 (fun β γ k1 k2 => hb_or k1 k2) (fun k x x' s => ex1_25)
        have pj : PendT w (c + (d + d2 + 1)) a M4 (popM M5 w (c + d + d2) 25) := ⟨M5, Or.inr ⟨c + d + d2, by omega, t4, top, rfl⟩⟩
        obtain ⟨held, G', y1, y2, y3⟩ := ih w c (d + d2 + 1) s2' p2 (it + 1) nC (z ||| h2) G2 M M4 _ (by omega) t1 pj gj (by omega) (by omega) (by omega) hw t6
        refine ⟨held, G', wst.trans y1, gf_t (gf_t a5 f2) y2, ?_⟩
        rcases y3 with ⟨M9, e1, e2, e3⟩ | ⟨s', p', M6, M7, d', u1, u2, u3, u4, u5, u6, u7, u8, u9, u10⟩
        · refine Or.inl ⟨M9, e1, e2, fun i j h1 h2 => ?_⟩
          obtain ⟨i, rfl⟩ : ∃ k, i = k + 1 := ⟨i - 1, by omega⟩
          obtain ⟨j, rfl⟩ : ∃ k, j = k + 1 := ⟨j - 1, by omega⟩
          show eB (i + 1) (j + 1) M' = some M9
          rw [run]
          exact t7 1000 j M9 (by omega) (by omega) (fun h j' g2 g3 => e3 h j' g2 g3)
        · refine Or.inr ⟨s', p', M6, M7, d', u1, by omega, u3, u4, u5, u6, u7, u8, u9, fun i j X h1 h2 hX => ?_⟩
          obtain ⟨i, rfl⟩ : ∃ k, i = k + 1 := ⟨i - 1, by omega⟩
          obtain ⟨j, rfl⟩ : ∃ k, j = k + 1 := ⟨j - 1, by omega⟩
          show eB (i + 1) (j + 1) M' = some X
          rw [run]
          exact t7 1000 j X (by omega) (by omega) (fun h j' g2 g3 => u10 h j' X g2 g3 hX)
theorem test_ok (hf : FOK e N S R k a) (he : e ≤ 200) {w c s p : Nat} {G : GlbS} {M : RowS} (h : TS e s p G M) (st : St w c a M) (hb : c + w + 3 ≤ s) (hw : Weak 1 w M) : ∃ held G', f_X2_test 1000 (f_X2_factor 1000 k) R G (nI a) = some (held, G') ∧ GF G G' ∧ TOut e N S w c a s (fun i j => eA i j M) M G' held := by
  have hse : s ≤ e := by have := h.1.2.2.2; omega
  obtain ⟨h2, G2, f1, f2, f3⟩ := conj_ok hf he h st hb (weak_mono hw (by decide))
  unfold f_X2_test
  rw [f1, ob_some, lt_eq, lt_eq]
  rcases f3 with ⟨M9, e1, e2, e3⟩ | ⟨s2, p2, M3, M4, d, t1, t2, t3, t4, t5, t6, t7⟩
  · refine ⟨h2, G2, ?_, f2, Or.inl ⟨M9, e1, e2, e3⟩⟩
    have := loopT_x (R := R) (ff := f_X2_factor 1000 k) (a := nI a) (z := h2) (it := 0) (n := 1000) (go_x e1.2.1) (by omega)
    rw [this]
    rfl
  · obtain ⟨held, G', y1, y2, y3⟩ := test_loop hf he 1000 w c d s2 p2 0 1000 h2 G2 M M3 M4 (by omega) t1 ⟨M4, Or.inl ⟨t4, rfl⟩⟩ t5 t3 (by omega) (by omega) hw t6
    have y1 : wloop (fun t : Int32 × Int32 × GlbS => l_X2_test_8 1000 (f_X2_factor 1000 k) R (nI a) t.1 t.2.1 t.2.2) 1000 (h2, 0, G2) = some (held, G') := y1
    rw [y1]
    refine ⟨held, G', rfl, gf_t f2 y2, ?_⟩
    rcases y3 with ⟨M9, e1, e2, e3⟩ | ⟨s', p', M6, M7, d', u1, u2, u3, u4, u5, u6, u7, u8, u9, u10⟩
    · exact Or.inl ⟨M9, e1, e2, fun i j h1 h2 => t7 i j M9 h1 h2 (fun h j' g2 g3 => e3 h j' g2 g3)⟩
    · exact Or.inr ⟨s', p', M6, M7, d', u1, by omega, u3, u4, u5, u6, u7, u8, u9, fun i j X h1 h2 hX => t7 i j X h1 h2 (fun h j' g2 g3 => u10 h j' X g2 g3 hX)⟩
end TEST
