/-! QUERY 17: query -/
section OKQ
variable {P : RowsS} {G : GlbS} {M : RowS}
theorem ok_query (I : Inv P G M) (a1 : Int32) : OK_query Inv P G M a1 := by
  unfold OK_query f_X7_query f_X8_query t_X7_query
  have I0 : Inv P G (si M 0 0 0) := I
  have h00 : (si M 0 0 0).1 0 0 = 0 := si_at
  simp only [lt]
  generalize si M 0 0 0 = M0 at I0 h00 ⊢
  obtain ⟨g, t1, t2, t3, t4, t5⟩ := id I0
  obtain ⟨f, f1, f2, f3, f4⟩ := t3
  obtain ⟨b, hb⟩ : ∃ b : Nat, b = min f 200 := ⟨_, rfl⟩
  have ej : jmin 200 (G 3 1) = nI b := by
    rw [f2]
    unfold jmin
    rw [show (200 : Int32) = nI 200 from rfl]
    by_cases c : f < 200
    · rw [if_pos ((nI_ltI (by omega) (by omega)).mpr c), show b = f by omega]
    · rw [if_neg (fun q => c ((nI_ltI (by omega) (by omega)).mp q)), show b = 200 by omega]
  have el : f_X8_lesser (M0.1 0 12) 200 = nI b := by
    rw [f3]
    unfold f_X8_lesser
    rw [show (200 : Int32) = nI 200 from rfl]
    by_cases c : 200 ≤ f
    · rw [if_pos ((nI_leI (by omega) (by omega)).mpr c), show b = 200 by omega]
    · rw [if_neg (fun q => c ((nI_leI (by omega) (by omega)).mp q)), show b = f by omega]
  rw [ej, el]
  rcases within_cases a1 0 (nI b) (lo6 := 0) (hi6 := (nI b).toInt64) rfl (by rw [i32_ext]) with ⟨q1, q2, q3, q4, q5⟩ | ⟨q3, q4, q5⟩
  · left
    rw [nI_toInt (by omega)] at q2
    have q1 : 0 ≤ a1.toInt := q1
    obtain ⟨L, hL, eL⟩ : ∃ L : Nat, L ≤ b ∧ a1 = nI L := ⟨a1.toInt.toNat, by omega, gI_of (by omega)⟩
    subst eL
    obtain ⟨G1, M1, b1, b2, ⟨q, r, b3⟩, b4, b5⟩ := begin_ts (G := G) (M := M0) (f := f) (L := L) (by omega) (by omega) f4
    obtain ⟨bm, G2, isF, M2, w1, w2, w3, w4, w5⟩ := q_many (R := P 0) b3
    have n1 : M2.1 1 = M0.1 1 := by rw [w4.1 1 (by decide), b5.1 1 (by decide)]
    have n5 : M2.2 5 = M0.2 5 := by rw [w4.2.1 5 (by decide), b5.2.1 5 (by decide)]
    obtain ⟨held, G3, v, M4, x1, x2, x3, x4, ⟨M3, x5, x6⟩, x7⟩ := q_end (R := P 0) (N := M0.1 1) (S := M0.2 5) (bm := bm) (isF := isF) (by omega) g.1 g.2.1 g.2.2.2.2 n1 n5 w5
    obtain ⟨G4, hG4⟩ : ∃ G4, G4 = f_X5_takeEnd G3 := ⟨_, rfl⟩
    rw [← hG4] at x3 x4 x7
    have em : f_X5_empty G4 = sg G4 3 1 0 := rfl
    have e7 : (sg G4 3 1 0) 3 7 = G4 3 7 := sg_ne (Or.inr (by decide))
    have fr1 : ∀ c, c ≠ 0 → c ≠ 23 → c ≠ 24 → c ≠ 25 → M4.1 c = M0.1 c := fun c k0 k1 k2 k3 => by rw [x6.1 c k3, x5.1 c k0 k1 k2, w4.1 c k0, b5.1 c k0]
    have fr2 : ∀ c, c ≠ 0 → M4.2 c = M0.2 c := fun c k0 => by rw [x6.2, x5.2.1 c k0, w4.2.1 c k0, b5.2.1 c k0]
    have fr3 : ∀ k, k ≠ 14 → k ≠ 15 → k ≠ 16 → k ≠ 17 → k ≠ 19 → k ≠ 20 → k ≠ 26 → k ≠ 27 → k ≠ 28 → M4.1 0 k = M1.1 0 k := fun k k1 k2 k3 k4 k5 k6 k7 k8 k9 => by rw [x6.1 0 (by decide), x5.2.2 k k1 k2 k3 k4 k5 k6 k7 k8 k9, w4.2.2 k k1 k2 k3 k4 k5 k6]
    have fr0 : ∀ k, k ≠ 12 → k ≠ 13 → k ≠ 14 → k ≠ 15 → k ≠ 16 → k ≠ 17 → k ≠ 19 → k ≠ 20 → k ≠ 26 → k ≠ 27 → k ≠ 28 → M4.1 0 k = M0.1 0 k := fun k k1 k2 k3 k4 k5 k6 k7 k8 k9 k10 k11 => by rw [fr3 k k3 k4 k5 k6 k7 k8 k9 k10 k11, b5.2.2.2 k k1 k2 k3 k4 k5 k6 k7 k8]
    have m12 : M4.1 0 12 = 0 := by rw [fr3 12 (by decide) (by decide) (by decide) (by decide) (by decide) (by decide) (by decide) (by decide) (by decide)]; exact b5.2.2.1
    have gc : ∀ c, c ≠ 3 → G4 c = G c := fun c hc => ((x3.1 c hc).trans (w3.1 c hc)).trans (b4.1 c hc)
    have hth : f_X8_thrown M4 = 0 := by
      unfold f_X8_thrown
      rw [fr0 0 (by decide) (by decide) (by decide) (by decide) (by decide) (by decide) (by decide) (by decide) (by decide) (by decide) (by decide)]
      exact h00
    have hI : Inv P (sg G4 3 1 0) M4 := by
      refine ⟨?_, ?_, ?_, ⟨0, by decide, sg_at, m12, fun k hk => by omega⟩, ?_, ?_⟩
      · rw [fr1 1 (by decide) (by decide) (by decide) (by decide), fr2 5 (by decide)]; exact g
      · refine hist_fr t1 (fun r hr => rfl) (by rw [sg_c (by decide)]; exact gc 1 (by decide)) (fr1 4 (by decide) (by decide) (by decide) (by decide)) (fr2 8 (by decide)) ?_
        exact fr0 9 (by decide) (by decide) (by decide) (by decide) (by decide) (by decide) (by decide) (by decide) (by decide) (by decide) (by decide)
      · refine snap_fr t2 rfl (by rw [sg_c (by decide), gc 0 (by decide)]) (fr1 2 (by decide) (by decide) (by decide) (by decide)) (fr2 6 (by decide)) ?_
        exact fr0 10 (by decide) (by decide) (by decide) (by decide) (by decide) (by decide) (by decide) (by decide) (by decide) (by decide) (by decide)
      · rw [sg_ne (Or.inr (by decide))]; exact x4
      · refine fmt_fr t5 (by rw [sg_c (by decide), gc 5 (by decide)]) (by rw [sg_c (by decide)]; exact gc 6 (by decide)) (fr1 21 (by decide) (by decide) (by decide) (by decide)) ?_
        exact fr0 22 (by decide) (by decide) (by decide) (by decide) (by decide) (by decide) (by decide) (by decide) (by decide) (by decide) (by decide)
    refine ⟨1000, v, sg G4 3 1 0, 1000, v, M4, ?_, ?_, hth, rfl, hI⟩
    · rw [q3, ob_some, b1, ob_some, w1, ob_some, x1, ob_some, ← hG4, em, e7]
      rcases x7 with ⟨y1, y2, y3⟩ | ⟨y1, y2⟩
      · rw [if_pos y1]
        cases bm with
        | true => rw [if_pos rfl, y2 rfl]
        | false => rw [if_neg Bool.false_ne_true, y3 rfl, ob_some]
      · rw [if_neg y1, y2]
    · rw [q5, b2i_t, fails_t h00, if_neg Bool.false_ne_true, b2, ob_some]
      exact w2.trans x2
  · right
    refine ⟨1000, 0, si M0 0 0 1, ?_, ?_, si_at, I0⟩
    · rw [q4, ob_some, if_neg (by decide)]
    · rw [q5, b2i_f, fails_f h00 (by decide), if_pos rfl]
end OKQ
