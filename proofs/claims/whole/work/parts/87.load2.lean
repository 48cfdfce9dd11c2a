/-! LOAD 5 -/
section LOADS
theorem si_c {R : RowS} {c d k : Nat} {v : Int32} (h : d ≠ c) : (si R c k v).1 d = R.1 d := by unfold si; simp only [va_up_ne _ _ h]
variable {P : RowsS} {G : GlbS} {M : RowS}
theorem ok_load (I : Inv P G M) (a1 : Int32) : OK_load Inv P G M a1 := by
  unfold OK_load f_X7_load f_X8_load t_X7_load
  have I0 : Inv P G (si M 0 0 0) := I
  have h00 : (si M 0 0 0).1 0 0 = 0 := si_at
  simp only [lt]
  generalize si M 0 0 0 = M0 at I0 h00 ⊢
  obtain ⟨g, t1, t2, t3, t4, t5⟩ := id I0
  obtain ⟨f, f1, f2, f3, f4⟩ := t3
  rcases within_cases a1 0 (G 3 1) (lo6 := 0) (hi6 := (M0.1 0 12).toInt64) rfl (by rw [i32_ext, f3, f2]) with ⟨q1, q2, q3, q4, q5⟩ | ⟨q3, q4, q5⟩
  · left
    rw [f2, nI_toInt (by omega)] at q2
    have q1 : 0 ≤ a1.toInt := q1
    obtain ⟨L, hL, eL⟩ : ∃ L : Nat, L ≤ f ∧ a1 = nI L := ⟨a1.toInt.toNat, by omega, gI_of (by omega)⟩
    subst eL
    obtain ⟨A, l1, l2⟩ := aside_n M0
    have hB : BY f G A := fun k hk => by rw [l2.1 11 (by decide)]; exact f4 k hk
    obtain ⟨G1, M1, b1, b2, b3, b4, b5⟩ := begin_ok f1 hL hB
    have z1 : ZM M1 := by
      unfold ZM
      rw [b5.1 1 (by decide), b5.2.1 5 (by decide), l2.1 1 (by decide), l2.2.1 5 (by decide)]
      exact g.2.2.1
    obtain ⟨R', G', M', r1, r2, r3, r4, r5, r6, r7⟩ := read_ok (R := P 1) (by omega) b3 z1
    obtain ⟨e7, e8⟩ := tt_end r5
    have fr1 : ∀ c, c ≠ 0 → c ≠ 1 → c ≠ 3 → M'.1 c = M0.1 c := fun c k0 k1 k3 => by rw [r4.1 c k0 k1, b5.1 c k0, l2.1 c k3]
    have fr2 : ∀ c, c ≠ 0 → c ≠ 5 → c ≠ 7 → M'.2 c = M0.2 c := fun c k0 k1 k3 => by rw [r4.2.1 c k0 k1, b5.2.1 c k0, l2.2.1 c k3]
    have fr0 : ∀ k, k ≠ 12 → k ≠ 13 → k ≠ 14 → k ≠ 15 → k ≠ 16 → k ≠ 17 → k ≠ 19 → k ≠ 20 → M'.1 0 k = M0.1 0 k := fun k k1 k2 k3 k4 k5 k6 k7 k8 => by rw [r4.2.2 k k3 k4 k5 k6 k7 k8, b5.2.2.2 k k1 k2 k3 k4 k5 k6 k7 k8, l2.1 0 (by decide)]
    have m12 : M'.1 0 12 = 0 := by rw [r4.2.2 12 (by decide) (by decide) (by decide) (by decide) (by decide) (by decide)]; exact b5.2.2.1
    have gc : ∀ c, c ≠ 3 → G' c = G c := fun c hc => (r3.1 c hc).trans (b4.1 c hc)
    rw [q5, b2i_t, fails_t h00, q3]
    simp only [ob_some]
    by_cases hg : M'.1 0 19 = 0
    · obtain ⟨w1, w2, w3⟩ := r7 hg
      obtain ⟨N, hN⟩ : ∃ N, N = M'.1 1 := ⟨_, rfl⟩
      rw [← hN] at w1 w2
      have zz : ZB N Z0 := by
        have : ZB (M'.1 1) (M'.2 5) := r6
        rw [← hN, w3] at this
        exact this
      have hc := cnt_le w1
      obtain ⟨R2, c1, c2⟩ := c_copy (R := P 0) (R2 := R') (c := cnt N) (n := 1000) (by omega) hc (by rw [w2.2.2.1, n2 w1])
      have rl := rel_same c2 w2
      obtain ⟨R3, s1, s2⟩ := settle_goodn w1 (z_wfS w1) zz rl
      have s3 := m_settle (M := M') (N := N) (S := Z0) w1 (z_wfS w1) (n := 1000) (by omega)
      have eM : mk M' N Z0 = M' := by rw [hN, ← w3]; exact mk_id
      rw [eM] at s3
      obtain ⟨y, hy⟩ : ∃ y, y = settleS N Z0 := ⟨_, rfl⟩
      rw [← hy] at s1 s2 s3
      obtain ⟨M9, hM9⟩ : ∃ M9 : RowS, M9 = si (si (mk M' y.2.1 y.2.2) 0 9 0) 0 10 0 := ⟨_, rfl⟩
      have n1 : M9.1 1 = y.2.1 := by rw [hM9, si_c (by decide), si_c (by decide)]; exact mk_1
      have n5 : M9.2 5 = y.2.2 := by rw [hM9]; exact mk_2 (M := M') (N := y.2.1)
      have nf : ∀ c, c ≠ 0 → c ≠ 1 → c ≠ 3 → M9.1 c = M0.1 c := fun c k0 k1 k3 => by rw [hM9, si_c k0, si_c k0, mk_1n k1]; exact fr1 c k0 k1 k3
      have nl : ∀ c, c ≠ 0 → c ≠ 5 → c ≠ 7 → M9.2 c = M0.2 c := fun c k0 k1 k3 => by rw [hM9, si_2, si_2, mk_2n k1]; exact fr2 c k0 k1 k3
      have n0 : ∀ k, k ≠ 9 → k ≠ 10 → M9.1 0 k = M'.1 0 k := fun k k1 k2 => by rw [hM9, si_ne (Or.inr k2), si_ne (Or.inr k1), mk_1n (by decide)]
      have n9 : M9.1 0 9 = 0 := by rw [hM9, si_ne (Or.inr (by decide))]; exact si_at
      have n10 : M9.1 0 10 = 0 := by rw [hM9]; exact si_at
      have mm := m_state (M := M9) (by rw [n1]; exact s2.1) 0 (n := 1000) (by omega)
      rw [n1] at mm
      have cc := c_state s2.1 s2.2.2.2.2.1 0 (n := 1000) (by omega)
      have e7' : G' 3 7 = 0 := by rw [e7]; exact hg
      refine ⟨1000, cS y.2.1 0 (cnt y.2.1), va_up (va_up (va_up P 1 R') 0 R2) 0 R3, sg (sg (sg (sg G' 3 1 0) 1 1 0) 1 2 0) 0 6 0, 1000, cS y.2.1 0 (cnt y.2.1), M9, ?_, ?_, ?_, rfl, ?_⟩
      · rw [b1, ob_some, r1, ob_some]
        have em : f_X5_empty (R', G').snd = sg G' 3 1 0 := rfl
        have e7'' : (sg G' 3 1 0) 3 7 = 0 := by rw [sg_ne (Or.inr (by decide))]; exact e7'
        rw [em, if_pos e7'', va_up_ne _ _ (by decide), va_up_self, c1, ob_some, va_up_self, s1, ob_some, va_up_self, cc, ob_some]
        rfl
      · rw [if_neg (by decide), l1, ob_some, b2, ob_some, r2, ob_some, good_t hg, if_pos rfl, s3, ob_some, ← hM9, mm, ob_some]
      · unfold f_X8_thrown
        rw [n0 0 (by decide) (by decide), fr0 0 (by decide) (by decide) (by decide) (by decide) (by decide) (by decide) (by decide) (by decide)]
        exact h00
      · have gz : ∀ c, c ≠ 0 → c ≠ 1 → c ≠ 3 → (sg (sg (sg (sg G' 3 1 0) 1 1 0) 1 2 0) 0 6 0) c = G c := fun c k0 k1 k3 => by rw [sg_c k0, sg_c k1, sg_c k1, sg_c k3]; exact gc c k3
        refine ⟨?_, ?_, Or.inl ⟨sg_at, n10⟩, ⟨0, by decide, ?_, ?_, fun k hk => by omega⟩, ?_, ?_⟩
        · rw [va_up_self, n1, n5]; exact s2
        · exact ⟨0, 0, by decide, by decide, by rw [sg_ne (Or.inl (by decide)), sg_ne (Or.inr (by decide))]; exact sg_at, by rw [sg_ne (Or.inl (by decide))]; exact sg_at, n9, fun i hi => by omega⟩
        · rw [sg_ne (Or.inl (by decide)), sg_ne (Or.inl (by decide)), sg_ne (Or.inl (by decide))]; exact sg_at
        · rw [n0 12 (by decide) (by decide)]; exact m12
        · rw [sg_ne (Or.inl (by decide)), sg_ne (Or.inl (by decide)), sg_ne (Or.inl (by decide)), sg_ne (Or.inr (by decide)), n0 20 (by decide) (by decide)]; exact e8
        · refine fmt_fr t5 (by rw [gz 5 (by decide) (by decide) (by decide)]) (gz 6 (by decide) (by decide) (by decide)) (nf 21 (by decide) (by decide) (by decide)) ?_
          rw [n0 22 (by decide) (by decide), fr0 22 (by decide) (by decide) (by decide) (by decide) (by decide) (by decide) (by decide) (by decide)]
    · have hb := back_n (A := M') (N := M0.1 1) (S := M0.2 5) (fun k hk => by rw [r4.1 3 (by decide) (by decide), b5.1 3 (by decide)]; exact l2.2.2.1 k hk) (fun k hk => by rw [r4.2.1 7 (by decide) (by decide), b5.2.1 7 (by decide)]; exact l2.2.2.2 k hk) g.2.2.1 r6
      have e7' : ¬ G' 3 7 = 0 := by rw [e7]; exact hg
      obtain ⟨M9, hM9⟩ : ∃ M9 : RowS, M9 = mk M' (M0.1 1) (M0.2 5) := ⟨_, rfl⟩
      rw [← hM9] at hb
      have n1 : M9.1 1 = M0.1 1 := by rw [hM9]; exact mk_1
      have n5 : M9.2 5 = M0.2 5 := by rw [hM9]; exact mk_2
      have n0 : M9.1 0 = M'.1 0 := by rw [hM9]; exact mk_1n (by decide)
      have nf : ∀ c, c ≠ 0 → c ≠ 1 → c ≠ 3 → M9.1 c = M0.1 c := fun c k0 k1 k3 => by rw [hM9, mk_1n k1]; exact fr1 c k0 k1 k3
      have nl : ∀ c, c ≠ 0 → c ≠ 5 → c ≠ 7 → M9.2 c = M0.2 c := fun c k0 k1 k3 => by rw [hM9, mk_2n k1]; exact fr2 c k0 k1 k3
      refine ⟨1000, (-10) - G' 3 7, va_up P 1 R', sg G' 3 1 0, 1000, (-10) - M'.1 0 19, M9, ?_, ?_, ?_, by rw [e7], ?_⟩
      · rw [b1, ob_some, r1, ob_some]
        have em : f_X5_empty (R', G').snd = sg G' 3 1 0 := rfl
        rw [em, if_neg (by rw [sg_ne (Or.inr (by decide))]; exact e7'), sg_ne (Or.inr (by decide))]
      · rw [if_neg (by decide), l1, ob_some, b2, ob_some, r2, ob_some, good_f hg, if_neg (by decide), hb, ob_some, n0]
      · unfold f_X8_thrown
        rw [n0, fr0 0 (by decide) (by decide) (by decide) (by decide) (by decide) (by decide) (by decide) (by decide)]
        exact h00
      · refine ⟨?_, ?_, ?_, ⟨0, by decide, sg_at, ?_, fun k hk => by omega⟩, ?_, ?_⟩
        · rw [va_up_ne _ _ (by decide), n1, n5]; exact g
        · refine hist_fr t1 (fun r hr => va_up_ne _ _ (by omega)) (by rw [sg_c (by decide)]; exact gc 1 (by decide)) (nf 4 (by decide) (by decide) (by decide)) (nl 8 (by decide) (by decide) (by decide)) ?_
          rw [n0, fr0 9 (by decide) (by decide) (by decide) (by decide) (by decide) (by decide) (by decide) (by decide)]
        · refine snap_fr t2 (va_up_ne _ _ (by decide)) (by rw [sg_c (by decide), gc 0 (by decide)]) (nf 2 (by decide) (by decide) (by decide)) (nl 6 (by decide) (by decide) (by decide)) ?_
          rw [n0, fr0 10 (by decide) (by decide) (by decide) (by decide) (by decide) (by decide) (by decide) (by decide)]
        · rw [n0]; exact m12
        · rw [sg_ne (Or.inr (by decide)), n0]; exact e8
        · refine fmt_fr t5 (by rw [sg_c (by decide), gc 5 (by decide)]) (by rw [sg_c (by decide)]; exact gc 6 (by decide)) (nf 21 (by decide) (by decide) (by decide)) ?_
          rw [n0, fr0 22 (by decide) (by decide) (by decide) (by decide) (by decide) (by decide) (by decide) (by decide)]
  · right
    refine ⟨1000, 0, si M0 0 0 1, ?_, ?_, si_at, I0⟩
    · rw [q4, ob_some, if_neg (by decide)]
    · rw [q5, b2i_f, fails_f h00 (by decide), if_pos rfl]
end LOADS
