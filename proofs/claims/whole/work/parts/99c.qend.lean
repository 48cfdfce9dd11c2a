/-! QUERY 14: the whole reading -/
section QEND
variable {e : Nat} {R : RowS} {N : Nat → Int32} {S : Nat → Int64}
theorem tend_x {G : GlbS} {M : RowS} (h : TX e G M) : TX e (f_X5_takeEnd G) M ∧ GF G (f_X5_takeEnd G) := by
  unfold f_X5_takeEnd
  by_cases c : G 3 5 = 0
  · rw [if_pos c]
    exact ⟨h, gf_r⟩
  · rw [if_neg c, lt_eq, lt_eq]
    obtain ⟨s, p, hp⟩ := h.1
    have k := cx_fail hp h.2.1 1
    exact ⟨tx_cx h k, k.1⟩
theorem q_reads (he : e ≤ 200) (hN : wfN N) (g : Settled R N S) {s p : Nat} {G : GlbS} {M : RowS} (h : TS e s p G M) (hs : 3 ≤ s) : ∃ held G', f_X2_test 1000 (f_X2_factor 1000 7) R G 0 = some (held, G') ∧ GF G G' ∧ ((∃ M', f_X8_reads 1000 M = some M' ∧ TX e (f_X5_takeEnd G') M' ∧ GF G' (f_X5_takeEnd G') ∧ MQf M M') ∨ ∃ M' C β, f_X8_reads 1000 M = some M' ∧ f_X5_takeEnd G' = G' ∧ (G' 3 7 = 0 ∧ G' 3 8 = -1 ∧ M'.1 0 19 = 0 ∧ M'.1 0 20 = -1) ∧ MQf M M' ∧ M'.1 0 26 = nI C ∧ C ≤ 200 ∧ HB held β (cnt N) ∧ ∀ k, k < cnt N → exN N S k (M'.1 23) 0 C [] = [b2i (β k)]) := by
  have hse : s ≤ e := by have := h.1.2.2.2; omega
  obtain ⟨M3, hM3⟩ : ∃ M3, M3 = si (si (si M 0 26 0) 0 28 0) 0 27 0 := ⟨_, rfl⟩
  have h3 : TS e s p G M3 := by
    rw [hM3]
    exact ts_si (ts_si (ts_si h (Or.inr (Or.inr ⟨rfl, Or.inl rfl⟩))) (Or.inr (Or.inr ⟨rfl, Or.inr (Or.inr rfl)⟩))) (Or.inr (Or.inr ⟨rfl, Or.inr (Or.inl rfl)⟩))
  have m3 : MQf M M3 := by
    rw [hM3]
    exact mq_t (mq_t (mq_si (Or.inr (Or.inr ⟨rfl, Or.inl rfl⟩))) (mq_si (Or.inr (Or.inr ⟨rfl, Or.inr (Or.inr rfl)⟩)))) (mq_si (Or.inr (Or.inr ⟨rfl, Or.inr (Or.inl rfl)⟩)))
  have st3 : St 0 0 0 M3 := by
    rw [hM3]
    exact ⟨si_at, by rw [si_ne (Or.inr (by decide)), si_ne (Or.inr (by decide))]; exact si_at, by rw [si_ne (Or.inr (by decide))]; exact si_at⟩
  have hr : f_X8_reads 1000 M = eA 1000 999 M3 := by
    have e0 := e_loop (j := 999) (z := b2i true) (M := M3) (by decide)
    rw [← e0]
    unfold f_X8_reads
    rw [lt_eq, lt_eq, lt_eq, ← hM3, good_t (ts_19 (m := 0) h3)]
    rfl
  obtain ⟨held, G', f1, f2, f3⟩ := test_ok (factor_ok he hN g 7 0 (by omega) (by omega)) he h3 st3 (by omega) (Or.inl rfl)
  have f1 : f_X2_test 1000 (f_X2_factor 1000 7) R G 0 = some (held, G') := f1
  refine ⟨held, G', f1, f2, ?_⟩
  rw [hr]
  rcases f3 with ⟨M9, e1, e2, e3⟩ | ⟨s', p', M6, M7, d, u1, u2, u3, u4, u5, u6, ⟨bi, u7, u7'⟩, u8, u9, u10⟩
  · obtain ⟨t1, t2⟩ := tend_x e1
    exact Or.inl ⟨M9, e3 1000 999 (by omega) (by omega), t1, t2, mq_t m3 e2⟩
  · have hse' : s' ≤ e := by have := u1.1.2.2.2; omega
    have hg6 := ts_19 (m := 0) u1
    have htt6 : TT e 0 G' M6 := Or.inl ⟨s', p', Nat.zero_le s', u1⟩
    have hbi : bi = false := by
      cases bi with
      | false => rfl
      | true =>
        obtain ⟨q, q1, q2⟩ := u7'.mp rfl
        omega
    rw [hbi] at u7
    obtain ⟨b41, k1, k2, k3, k4⟩ := t_sign (a := 41) (by unfold bd; decide) htt6
    have hB : ∀ h j, eB (h + 1) (j + 1) M6 = b_X8_reads_124 1000 M6 := fun h j => by
      cases b41 with
      | true => rw [eB_out k1 u7, eC_end u8 u9]
      | false => rw [eB_no k1, eC_end u8 u9]
    have hfin : ∀ X, b_X8_reads_124 1000 M6 = some X → eA 1000 999 M3 = some X := fun X hX => by
      refine u10 1000 999 X (by omega) (by omega) (fun h j' g2 g3 => ?_)
      obtain ⟨h, rfl⟩ : ∃ k, h = k + 1 := ⟨h - 1, by omega⟩
      obtain ⟨j', rfl⟩ : ∃ k, j' = k + 1 := ⟨j' - 1, by omega⟩
      rw [hB]
      exact hX
    have endk : G' 3 5 = 0 → M6.1 0 16 = 0 → ∃ M' C β, eA 1000 999 M3 = some M' ∧ f_X5_takeEnd G' = G' ∧ (G' 3 7 = 0 ∧ G' 3 8 = -1 ∧ M'.1 0 19 = 0 ∧ M'.1 0 20 = -1) ∧ MQf M M' ∧ M'.1 0 26 = nI C ∧ C ≤ 200 ∧ HB held β (cnt N) ∧ ∀ k, k < cnt N → exN N S k (M'.1 23) 0 C [] = [b2i (β k)] := by
      intro z1 z2
      obtain ⟨w1, w2, w3, w4, β, w5, w6⟩ := u6
      have w2 := w2.2.1
      rw [Nat.zero_add] at w2
      refine ⟨M7, d, β, hfin M7 ?_, ?_, ⟨u5.2.1.1, u5.2.1.2.2.1, u5.2.1.2.1, u5.2.1.2.2.2⟩, mq_t m3 w1, w2, by omega, w5, fun k hk => w6 k hk []⟩
      · unfold b_X8_reads_124 b_X8_reads_151
        rw [good_t hg6, lt_eq, if_pos rfl, u7, ob_some, if_neg (by decide), if_pos z2, u4.1, ob_some]
        rfl
      · unfold f_X5_takeEnd
        rw [if_pos z1]
    have endx : ¬ G' 3 5 = 0 → ¬ M6.1 0 16 = 0 → ∃ M', eA 1000 999 M3 = some M' ∧ TX e (f_X5_takeEnd G') M' ∧ GF G' (f_X5_takeEnd G') ∧ MQf M M' := by
      intro z1 z2
      obtain ⟨M9, o1, o2, o3⟩ := t_failo htt6 (c := 1) (by decide) 0
      rcases o2.2.2.1 with ⟨s9, p9, _, ht⟩ | hx
      · exact absurd (ts_19 (m := 0) ht) o3
      · have et : f_X5_takeEnd G' = f_X5_fail G' 1 := by
          unfold f_X5_takeEnd
          rw [if_neg z1]
          rfl
        rw [et]
        refine ⟨M9, hfin M9 ?_, hx, o2.1, mq_t (mq_t (mq_t m3 u6.1) (mq_s u4.2)) (mf_q o2.2.1)⟩
        unfold b_X8_reads_124 b_X8_reads_145 b_X8_reads_151
        rw [good_t hg6, lt_eq, if_pos rfl, u7, ob_some, if_neg (by decide), if_neg z2, o1, lt_eq, lt_eq, sets_x o3]
        rfl
    rcases u1.2.2.2.2 with ⟨k1, k2, k3⟩ | ⟨k1, k2, k3, k4, k5⟩ | ⟨k1, k2, k3, k4⟩ | ⟨k1, k2, k3⟩
    · exact Or.inr (endk k1 k2)
    · exact Or.inl (endx (by rw [k1]; decide) (by rw [k2]; decide))
    · exact Or.inl (endx (by rw [k1]; decide) (by rw [k2]; decide))
    · exact Or.inl (endx (by rw [k1]; decide) (by rw [k2]; decide))
end QEND
