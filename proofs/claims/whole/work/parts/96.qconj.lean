/-! QUERY 9: conjunctions -/
def FOut (e : Nat) (N : Nat → Int32) (S : Nat → Int64) (w c a s : Nat) (M : RowS) (G' : GlbS) (held : Int32) : Prop :=
  (∃ M', TX e G' M' ∧ MQf M M' ∧ ∀ i j, e < s + i → e < s + j → eA i j M = some M') ∨
  (∃ s' p' M' d, TS e s' p' G' M' ∧ s + 1 ≤ s' ∧ c + d + w + 3 ≤ s' ∧ Got N S w c d a M M' held ∧ ∀ i j X, e < s + i → e < s + j → (∀ g h j', w + 1 < g → e < s' + h → e < s' + j' → eS g h j' M' = some X) → eA i j M = some X)
def FOK (e : Nat) (N : Nat → Int32) (S : Nat → Int64) (R : RowS) (k a : Nat) : Prop :=
  ∀ w c s p G M, TS e s p G M → St w c a M → c + w + 3 ≤ s → ∃ held G', f_X2_factor 1000 k R G (nI a) = some (held, G') ∧ GF G G' ∧ FOut e N S w c a s M G' held
def COut (e : Nat) (N : Nat → Int32) (S : Nat → Int64) (w c a s : Nat) (run : Nat → Nat → Option RowS) (M : RowS) (G' : GlbS) (held : Int32) : Prop :=
  (∃ M', TX e G' M' ∧ MQf M M' ∧ ∀ i j, e < s + i → e < s + j → run i j = some M') ∨
  (∃ s' p' M' M1 d, TS e s' p' G' M' ∧ s ≤ s' ∧ c + d + w + 3 ≤ s' ∧ Pend w (c + d) a M' M1 ∧ Got N S w c d a M M1 held ∧ f_X8_isWord M' 1111 = false ∧ ∀ i j X, e < s + i → e < s + j → (∀ h j', e < s' + h → e < s' + j' → eB h j' M' = some X) → run i j = some X)
theorem b2i_and (x y : Bool) : b2i (f_X8_joined 24 (b2i x) (b2i y)) = b2i (x && y) := by cases x <;> cases y <;> decide
theorem b2i_or (x y : Bool) : b2i (f_X8_joined 25 (b2i x) (b2i y)) = b2i (x || y) := by cases x <;> cases y <;> decide
theorem b2i_not (x : Bool) : 1 - b2i x = b2i (!x) := by cases x <;> decide
theorem ex1_24 {N : Nat → Int32} {S : Nat → Int64} {k : Nat} {x y : Bool} {s : List Int32} : ex1 N S k 24 (b2i y :: b2i x :: s) = b2i (x && y) :: s := by
  unfold ex1
  rw [if_neg (by decide), if_pos (by decide), ← b2i_and]
theorem ex1_25 {N : Nat → Int32} {S : Nat → Int64} {k : Nat} {x y : Bool} {s : List Int32} : ex1 N S k 25 (b2i y :: b2i x :: s) = b2i (x || y) :: s := by
  unfold ex1
  rw [if_neg (by decide), if_pos (by decide), ← b2i_or]
theorem ex1_23 {N : Nat → Int32} {S : Nat → Int64} {k : Nat} {x : Bool} {s : List Int32} : ex1 N S k 23 (b2i x :: s) = b2i (!x) :: s := by
  unfold ex1
  rw [if_pos rfl, ← b2i_not]
theorem push_ok {e s p w c a : Nat} {y : Int32} {G : GlbS} {M : RowS} (h : TS e s p G M) (st : St w c a M) : ∃ G' M2 q r, f_X5_advance 1000 G = some G' ∧ f_X8_next 1000 (si (si M 24 w y) 0 27 (nI (w + 1))) = some M2 ∧ p ≤ q ∧ TS e q r G' M2 ∧ GF G G' ∧ MQf M M2 ∧ St (w + 1) c a M2 ∧ M2.1 24 w = y ∧ (∀ i, i < w → M2.1 24 i = M.1 24 i) ∧ M2.1 23 = M.1 23 := by
  obtain ⟨M1, hM1⟩ : ∃ M1, M1 = si (si M 24 w y) 0 27 (nI (w + 1)) := ⟨_, rfl⟩
  have h1 : TS e s p G M1 := by
    rw [hM1]
    exact ts_si (ts_si h (Or.inr (Or.inl rfl))) (Or.inr (Or.inr ⟨rfl, Or.inr (Or.inl rfl)⟩))
  have m1 : MQf M M1 := by
    rw [hM1]
    exact mq_t (mq_si (Or.inr (Or.inl rfl))) (mq_si (Or.inr (Or.inr ⟨rfl, Or.inr (Or.inl rfl)⟩)))
  have s1 : St (w + 1) c a M1 := by
    rw [hM1]
    exact ⟨si_at, by rw [si_ne (Or.inr (by decide)), si_ne (Or.inl (by decide))]; exact st.2.1, by rw [si_ne (Or.inr (by decide)), si_ne (Or.inl (by decide))]; exact st.2.2⟩
  obtain ⟨G', M2, q, r, a1, a2, a3, a4, a5, a6⟩ := adv_ts h1
  rw [← hM1]
  refine ⟨G', M2, q, r, a1, a2, a3, a4, a5, mq_t m1 (mf_q a6), st_mf s1 a6, ?_, fun i hi => ?_, ?_⟩
  · rw [a6.1 24 (by decide), hM1, si_c (by decide), si_at]
  · rw [a6.1 24 (by decide), hM1, si_c (by decide), si_ne (Or.inr (by omega))]
  · rw [a6.1 23 (by decide), hM1, si_c (by decide), si_c (by decide)]
/-- two pushed, and joined by what waited between them -/
theorem got_join {N : Nat → Int32} {S : Nat → Int64} {w c d d2 a : Nat} {M M1 M2 M3 : RowS} {z h2 : Int32} {y r : Int32} (op : Bool → Bool → Bool) (g1 : Got N S w c d a M M1 z) (m12 : MQf M1 M2) (f24 : ∀ i, i < w → M2.1 24 i = M1.1 24 i) (f23 : M2.1 23 = M1.1 23) (g2 : Got N S (w + 1) (c + d) d2 a M2 M3 h2) (hb : ∀ β γ : Nat → Bool, HB z β (cnt N) → HB h2 γ (cnt N) → HB r (fun i => op (β i) (γ i)) (cnt N)) (hx : ∀ k x x' s, ex1 N S k y (b2i x' :: b2i x :: s) = b2i (op x x') :: s) : Got N S w c (d + d2 + 1) a M (popM M3 w (c + d + d2) y) r := by
  obtain ⟨p1, p2, p3, p4, β, p5, p6⟩ := g1
  obtain ⟨q1, q2, q3, q4, γ, q5, q6⟩ := g2
  refine ⟨mq_t (mq_t (mq_t p1 m12) q1) pop_mq, ?_, fun i hi => ?_, fun i hi => ?_, fun i => op (β i) (γ i), hb β γ p5 q5, fun k hk s => ?_⟩
  · have := pop_st (M := M3) (w := w) (c := c + d + d2) (t := y) q2.2.2
    rw [show c + (d + d2 + 1) = c + d + d2 + 1 by omega]
    exact this
  · rw [pop_24, q3 i (by omega), f24 i hi, p3 i hi]
  · rw [pop_23 (by omega), q4 i (by omega), f23, p4 i hi]
  · have e0 : (popM M3 w (c + d + d2) y).1 23 (c + (d + d2)) = y := by rw [show c + (d + d2) = c + d + d2 by omega]; exact pop_c
    have e1 : exN N S k ((popM M3 w (c + d + d2) y).1 23) c d s = b2i (β k) :: s := by
      rw [ex_congr (g := M1.1 23) d (fun i h1 h2 => by rw [pop_23 (by omega), q4 i (by omega), f23])]
      exact p6 k hk s
    have e2 : ∀ t, exN N S k ((popM M3 w (c + d + d2) y).1 23) (c + d) d2 t = b2i (γ k) :: t := fun t => by
      rw [ex_congr (g := M3.1 23) d2 (fun i h1 h2 => by rw [pop_23 (by omega)])]
      exact q6 k hk t
    rw [exN, e0, ex_add, e1, e2, hx]
section CONJ
variable {e k a : Nat} {R : RowS} {N : Nat → Int32} {S : Nat → Int64}
theorem weak_eq {w : Nat} {y : Int32} {M M' : RowS} (h : Weak y w M) (f : ∀ i, i < w → M'.1 24 i = M.1 24 i) : Weak y w M' := by
  rcases h with h | h
  · exact Or.inl h
  · by_cases z : w = 0
    · exact Or.inl z
    · exact Or.inr (by rw [f (w - 1) (by omega)]; exact h)
theorem conj_loop (hf : FOK e N S R k a) (he : e ≤ 200) : ∀ n w c d s p it nC z G M M' M1, e < s + n → TS e s p G M' → Pend w (c + d) a M' M1 → Got N S w c d a M M1 z → c + d + w + 3 ≤ s → it ≤ s → e < s + nC → Weak 2 w M → ∃ held G', wloop (fun t : Int32 × Int32 × GlbS => l_X2_conjunction_8 1000 (f_X2_factor 1000 k) R (nI a) t.1 t.2.1 t.2.2) nC (z, nI it, G) = some (held, G') ∧ GF G G' ∧ COut e N S w c a s (fun h j => eB h j M') M G' held := by
  intro n
  induction n with
  | zero =>
    intro w c d s p it nC z G M M' M1 hn h
    have := h.1.2.2.2
    omega
  | succ n ih =>
    intro w c d s p it nC z G M M' M1 hn h hp hG hb hit hnC hw
    have hse : s ≤ e := by have := h.1.2.2.2; omega
    have hg := ts_19 (m := 0) h
    have htt : TT e 0 G M' := Or.inl ⟨s, p, Nat.zero_le s, h⟩
    obtain ⟨b, x1, x2, _⟩ := t_word lw_and htt
    have x2 := x2 hg
    obtain ⟨nC, rfl⟩ : ∃ k, nC = k + 1 := ⟨nC - 1, by omega⟩
    cases b with
    | false =>
      refine ⟨z, G, wl_en (f := fun t : Int32 × Int32 × GlbS => l_X2_conjunction_8 1000 (f_X2_factor 1000 k) R (nI a) t.1 t.2.1 t.2.2) (s := (z, nI it, G)) ?_, gf_r, Or.inr ⟨s, p, M', M1, d, h, Nat.le_refl s, hb, hp, hG, x2, fun i j X h1 h2 hX => hX i j h1 h2⟩⟩
      show l_X2_conjunction_8 1000 (f_X2_factor 1000 k) R (nI a) z (nI it) G = _
      unfold l_X2_conjunction_8
      rw [x1, lt_eq]
      by_cases c1 : 200 ≤ nI it
      · rw [if_pos c1]
      · rw [if_neg c1]
        cases f_X5_goesOn G with
        | false => rw [if_neg (by decide)]
        | true => rw [if_pos rfl, ob_some, if_neg (by decide)]
    | true =>
      have hsp := word_lt lw_and h x2
      have hpe := h.1.2.2.2.2.1
      have hk := ((m_word lw_and h).mp x2).1
      have hgo : f_X5_goesOn G = true := by
        unfold f_X5_goesOn
        rw [h.2.1.1, if_pos rfl, hk, if_neg (by decide)]
      have h1 := pend_ts hp h
      have st1 := pend_st hp
      have hg1 := ts_19 (m := 0) h1
      have hw1 : Weak 2 w M1 := weak_eq hw hG.2.2.1
      obtain ⟨n', n1, n2, n3⟩ := pend_set (n := 1000) (y := 2) hp hg (by omega) (by omega) (by decide) (by omega)
      have hset : f_X8_settles_ 1000 M' 2 = some M1 := sets_of (n3.trans (set_end hg1 st1 (by omega) (by omega) hw1 (by omega)))
      obtain ⟨G1, M2, q, r, a1, a2, a3, a4, a5, a6, a7, a8, a9, a10⟩ := push_ok (y := 24) h1 st1
      obtain ⟨h2, G2, f1, f2, f3⟩ := hf (w + 1) (c + d) q r G1 M2 a4 a7 (by omega)
      obtain ⟨b41, s1, s2, s3, s4⟩ := t_sign (a := 41) (by unfold bd; decide) htt
      have hb41 : b41 = false := by
        cases b41 with
        | false => rfl
        | true => have := s4 rfl; rw [hk] at this; exact absurd this (by decide)
      subst hb41
      have run : ∀ i j, eB (i + 1) (j + 1) M' = eA 1000 j M2 := fun i j => by
        rw [eB_no s1, eC_on (Or.inl ⟨x2, rfl, rfl⟩) hset st1.1 (by omega) a2]
      have step : l_X2_conjunction_8 1000 (f_X2_factor 1000 k) R (nI a) z (nI it) G = some (.inl (z &&& h2, nI (it + 1), G2)) := by
        unfold l_X2_conjunction_8
        rw [if_neg (by rw [show (200 : Int32) = nI 200 from rfl, nI_leI (by omega) (by omega)]; omega), hgo, lt_eq, if_pos rfl, x1, ob_some, if_pos rfl, a1, ob_some, lt_eq, f1, ob_some, nI_1]
        rfl
      have wst := wl_st (n := nC) (f := fun t : Int32 × Int32 × GlbS => l_X2_conjunction_8 1000 (f_X2_factor 1000 k) R (nI a) t.1 t.2.1 t.2.2) (s := (z, nI it, G)) step
      rcases f3 with ⟨M9, e1, e2, e3⟩ | ⟨s2', p2, M3, d2, t1, t2, t3, t4, t5⟩
      · refine ⟨z &&& h2, G2, wst.trans (loopC_x (go_x e1.2.1) (by omega)), gf_t a5 f2, Or.inl ⟨M9, e1, mq_t (mq_t hG.1 a6) e2, fun i j h1 h2 => ?_⟩⟩
        obtain ⟨i, rfl⟩ : ∃ k, i = k + 1 := ⟨i - 1, by omega⟩
        obtain ⟨j, rfl⟩ : ∃ k, j = k + 1 := ⟨j - 1, by omega⟩
        show eB (i + 1) (j + 1) M' = some M9
        rw [run]
        exact e3 1000 j (by omega) (by omega)
      · have top : M3.1 24 w = 24 := by rw [t4.2.2.1 w (by omega)]; exact a8
        have gj := got_join (y := 24) (r := z &&& h2) (fun x y => x && y) hG a6 a9 a10 t4 (fun β γ k1 k2 => hb_and k1 k2) (fun k x x' s => ex1_24)
        have pj : Pend w (c + (d + d2 + 1)) a M3 (popM M3 w (c + d + d2) 24) := Or.inr ⟨c + d + d2, by omega, t4.2.1, top, rfl⟩
        obtain ⟨held, G', y1, y2, y3⟩ := ih w c (d + d2 + 1) s2' p2 (it + 1) nC (z &&& h2) G2 M M3 _ (by omega) t1 pj gj (by omega) (by omega) (by omega) hw
        refine ⟨held, G', wst.trans y1, gf_t (gf_t a5 f2) y2, ?_⟩
        have hop : ∀ g h j, 0 < g → eS g h j M3 = eB h j M3 := fun g h j hgz => by
          obtain ⟨g, rfl⟩ : ∃ k, g = k + 1 := ⟨g - 1, by omega⟩
          exact eS_stop (ts_19 (m := 0) t1) t4.2.1 (by omega) (by have := t1.1.2.2.2; omega) (Or.inr (by rw [Nat.add_sub_cancel, top, str_24]; decide))
        rcases y3 with ⟨M9, e1, e2, e3⟩ | ⟨s', p', M4, M5, d', u1, u2, u3, u4, u5, u6, u7⟩
        · refine Or.inl ⟨M9, e1, e2, fun i j h1 h2 => ?_⟩
          obtain ⟨i, rfl⟩ : ∃ k, i = k + 1 := ⟨i - 1, by omega⟩
          obtain ⟨j, rfl⟩ : ∃ k, j = k + 1 := ⟨j - 1, by omega⟩
          show eB (i + 1) (j + 1) M' = some M9
          rw [run]
          exact t5 1000 j M9 (by omega) (by omega) (fun g h j' g1 g2 g3 => by rw [hop g h j' (by omega)]; exact e3 h j' g2 g3)
        · refine Or.inr ⟨s', p', M4, M5, d', u1, by omega, u3, u4, u5, u6, fun i j X h1 h2 hX => ?_⟩
          obtain ⟨i, rfl⟩ : ∃ k, i = k + 1 := ⟨i - 1, by omega⟩
          obtain ⟨j, rfl⟩ : ∃ k, j = k + 1 := ⟨j - 1, by omega⟩
          show eB (i + 1) (j + 1) M' = some X
          rw [run]
          exact t5 1000 j X (by omega) (by omega) (fun g h j' g1 g2 g3 => by rw [hop g h j' (by omega)]; exact u7 h j' X g2 g3 hX)
end CONJ
