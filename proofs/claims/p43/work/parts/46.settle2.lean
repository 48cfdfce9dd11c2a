/-! SETTLE, the whole of it -/
noncomputable def rnd (j : Nat) (N : Nat → Int32) (S : Nat → Int64) : BS := brun j (levS N S j) (cnt N) (0, N, S)
noncomputable def sLeg (j : Nat) : Nat → (Nat → Int32) → (Nat → Int64) → BS
  | 0, N, S => (0, N, S)
  | k + 1, N, S => if (rnd j N S).1 = 0 then (0, N, S) else ((rnd j N S).1 + (sLeg j k (rnd j N S).2.1 (rnd j N S).2.2).1, (sLeg j k (rnd j N S).2.1 (rnd j N S).2.2).2)
noncomputable def settleS (N : Nat → Int32) (S : Nat → Int64) : BS :=
  ((sLeg 0 13 N S).1 + (sLeg 1 13 (sLeg 0 13 N S).2.1 (sLeg 0 13 N S).2.2).1, (sLeg 1 13 (sLeg 0 13 N S).2.1 (sLeg 0 13 N S).2.2).2)
def QuietJ (N : Nat → Int32) (S : Nat → Int64) (j : Nat) : Prop := ∀ t, t < cnt N → lgOf N t = j → tg N t 6 = 0 → 0 ≤ runS N t (levS N S j) ∧ runS N t (levS N S j) ≤ (fullS N t).toInt64
def Quiet (N : Nat → Int32) (S : Nat → Int64) : Prop := ∀ j, j < 2 → QuietJ N S j
def LgF (N : Nat → Int32) (S : Nat → Int64) (j : Nat) (y : BS) : Prop :=
  ∃ c : Nat, y.1 = nI c ∧ wh y.2.1 (cnt N) + c = wh N (cnt N) ∧ StEq N y.2.1 ∧ wfN y.2.1 ∧ wfS y.2.1 y.2.2 ∧ (∀ k, k ≠ j → k ≠ 2 + j → y.2.2 k = S k) ∧ (∀ u, lgOf N u ≠ j → tg y.2.1 u 6 = tg N u 6) ∧ QuietJ y.2.1 y.2.2 j
def SetF (N : Nat → Int32) (S : Nat → Int64) (y : BS) : Prop :=
  ∃ c : Nat, c ≤ 12 ∧ y.1 = nI c ∧ wh y.2.1 (cnt N) + c = wh N (cnt N) ∧ StEq N y.2.1 ∧ wfN y.2.1 ∧ wfS y.2.1 y.2.2 ∧ (∀ k, 4 ≤ k → y.2.2 k = S k) ∧ Quiet y.2.1 y.2.2
section SETTLE
variable {N : Nat → Int32} {S : Nat → Int64}
theorem lev_bd2 (h : wfN N) (hS : wfS N S) {j : Nat} (hj : j < 2) : -lowL N j - 19300000 ≤ (levS N S j).toInt ∧ (levS N S j).toInt ≤ 20000000 ∧ -30000000 ≤ (levS N S j).toInt := by
  have h1 := lev_bd h hS hj (lev_is h hS hj)
  have h2 := lowL_bd h hj
  omega
theorem rise_lo (h : wfN N) {t : Nat} (ht : t < cnt N) {L : Int64} (hL : -1000000000000 ≤ L.toInt ∧ L.toInt ≤ 1000000000000) (hr : 0 < (runS N t L).toInt) : -lowL N (lgOf N t) ≤ L.toInt := by
  have h1 := pull_lo h ht
  have h2 := men_int h ht
  have h3 := (h.2.2.2.2.2 t ht).2.2.2.2.1
  unfold bd at h3
  rw [(run_int h ht hL).1] at hr
  by_cases hc : -lowL N (lgOf N t) ≤ L.toInt
  · exact hc
  · have h4 : (L.toInt + (pullS N t).toInt + (menS N t).toInt) * 1000 ≤ 0 := by omega
    have h5 := Int.tdiv_le_tdiv (c := (tg N t 3).toInt) (by omega) h4
    rw [Int.zero_tdiv] at h5
    unfold runZ at hr
    omega
theorem rnd_facts (h : wfN N) (hS : wfS N S) {j : Nat} (hj : j < 2) : BrF N S j (levS N S j) (cnt N) (rnd j N S) := brun_facts h hS hj _ _ (Nat.le_refl _)
theorem rnd_wfS (h : wfN N) (hS : wfS N S) {j : Nat} (hj : j < 2) : wfS (rnd j N S).2.1 (rnd j N S).2.2 := by
  obtain ⟨c, y1, y2, y3, y4, y5, y6, y7, y8, -⟩ := rnd_facts h hS hj
  generalize rnd j N S = y at y1 y2 y3 y4 y5 y6 y7 y8
  have hc := cnt_le h
  have hw := wh_le (N := N) (cnt N)
  intro i hi
  rw [st_lg y2 hi (by decide), st_lowL y2 hi, y5 (4 + i) (by omega) (by omega)]
  have h0 := hS i hi
  by_cases hij : i = j
  · subst hij
    refine ⟨?_, by omega, h0.2.2.1, h0.2.2.2⟩
    rcases y8 with q | ⟨u, u1, u2, u3⟩
    · rw [q]; exact h0.1
    · have hl := lev_is h hS hi
      have hb := lev_bd2 h hS hi
      have ha := area_bd h hi
      have hv := vol_bd h i (levS N S i).toInt (cnt N) (Nat.le_refl _)
      have hr := rise_lo h u1 (L := levS N S i) (by omega) u3
      rw [u2] at hr
      have h1 : (lg N i 1).toInt * (-lowL N i) ≤ (lg N i 1).toInt * (levS N S i).toInt := Int.mul_le_mul_of_nonneg_left hr (by omega)
      rw [Int.mul_neg] at h1
      have h2 := hl.1
      omega
  · rw [y5 i hij (by omega)]
    exact h0
theorem brun_quiet (h : wfN N) {j : Nat} (hj : j < 2) (hq : QuietJ N S j) : ∀ n, n ≤ cnt N → brun j (levS N S j) n (0, N, S) = (0, N, S) := by
  intro n
  induction n with
  | zero => intro _; rfl
  | succ n ih =>
    intro hn
    show bstep j (levS N S j) n (brun j (levS N S j) n (0, N, S)) = _
    rw [ih (by omega)]
    unfold bstep
    by_cases c1 : tg N n 0 = nI j
    · by_cases c2 : tg N n 6 = 0
      · have := hq n (by omega) ((tg0_iff h (by omega) hj).mp c1) c2
        simp only [c1, c2, this.1, this.2, if_true]
      · simp only [c1, c2, if_true, if_false]
    · simp only [c1, if_false]
theorem rnd_quiet (h : wfN N) {j : Nat} (hj : j < 2) (hq : QuietJ N S j) : rnd j N S = (0, N, S) := brun_quiet h hj hq _ (Nat.le_refl _)
theorem sLeg_quiet (h : wfN N) {j : Nat} (hj : j < 2) (hq : QuietJ N S j) (k : Nat) : sLeg j k N S = (0, N, S) := by
  cases k with
  | zero => rfl
  | succ k => unfold sLeg; rw [rnd_quiet h hj hq]; rfl
theorem nI_z {c : Nat} (hc : c ≤ 12) : nI c = 0 ↔ c = 0 := by
  rw [show (0 : Int32) = nI 0 from rfl, nI_eq (by omega) (by omega)]
end SETTLE
theorem sLeg_facts {j : Nat} (hj : j < 2) : ∀ (k : Nat) (N : Nat → Int32) (S : Nat → Int64), wfN N → wfS N S → wh N (cnt N) < k → LgF N S j (sLeg j k N S) := by
  intro k
  induction k with
  | zero => intro N S _ _ hk; omega
  | succ k ih =>
    intro N S h hS hk
    have hc := cnt_le h
    have hw := wh_le (N := N) (cnt N)
    obtain ⟨c, y1, y2, y3, y4, y5, y6, y7, y8, y9, y10, y11⟩ := rnd_facts h hS hj
    have hs := rnd_wfS h hS hj
    unfold sLeg
    by_cases hz : (rnd j N S).1 = 0
    · rw [if_pos hz]
      have c0 : c = 0 := (nI_z (by omega)).mp (y1.symm.trans hz)
      refine ⟨0, rfl, by show wh N (cnt N) + 0 = _; omega, st_rf, h, hS, fun _ _ _ => rfl, fun _ _ => rfl, fun t ht h1 h2 => (y9 c0).2 t ht h1 h2⟩
    · rw [if_neg hz]
      have c0 : c ≠ 0 := fun q => hz (by rw [y1, q]; rfl)
      generalize rnd j N S = y at y1 y2 y3 y4 y5 y6 y7 y8 y10 hs
      obtain ⟨d, z1, z2, z3, z4, z5, z6, z7, z8⟩ := ih y.2.1 y.2.2 y3 hs (by rw [st_cnt y2]; omega)
      rw [st_cnt y2] at z2
      refine ⟨c + d, by show y.1 + (sLeg j k y.2.1 y.2.2).1 = _; rw [y1, z1, nI_add], by show wh (sLeg j k y.2.1 y.2.2).2.1 (cnt N) + (c + d) = _; omega, st_tr y2 z3, z4, z5, fun i q1 q2 => (z6 i q1 q2).trans (y5 i q1 q2), fun u hu => (z7 u (by rw [st_lgOf y2]; exact hu)).trans (y10 u hu), z8⟩
section SETTLE2
variable {N : Nat → Int32} {S : Nat → Int64}
theorem settle_facts (h : wfN N) (hS : wfS N S) : SetF N S (settleS N S) := by
  have hc := cnt_le h
  have hw := wh_le (N := N) (cnt N)
  obtain ⟨c, y1, y2, y3, y4, y5, y6, y7, y8⟩ := sLeg_facts (j := 0) (by decide) 13 N S h hS (by omega)
  unfold settleS
  generalize sLeg 0 13 N S = y at y1 y2 y3 y4 y5 y6 y7 y8
  have hw2 := wh_le (N := y.2.1) (cnt N)
  obtain ⟨d, z1, z2, z3, z4, z5, z6, z7, z8⟩ := sLeg_facts (j := 1) (by decide) 13 y.2.1 y.2.2 y4 y5 (by rw [st_cnt y3]; omega)
  generalize sLeg 1 13 y.2.1 y.2.2 = x at z1 z2 z3 z4 z5 z6 z7 z8
  rw [st_cnt y3] at z2
  have hst := st_tr y3 z3
  refine ⟨c + d, by omega, by show y.1 + x.1 = _; rw [y1, z1, nI_add], by show wh x.2.1 (cnt N) + (c + d) = _; omega, hst, z4, z5, fun k hk => (z6 k (by omega) (by omega)).trans (y6 k (by omega) (by omega)), ?_⟩
  intro j hj
  rcases (show j = 1 ∨ j = 0 by omega) with rfl | rfl
  · exact z8
  · intro t ht g1 g2
    have ht' : t < cnt y.2.1 := by rw [st_cnt z3] at ht; exact ht
    have g1' : lgOf y.2.1 t = 0 := by rw [← g1]; exact (st_lgOf z3).symm
    have h6 : ∀ u, u < cnt y.2.1 → lgOf y.2.1 u = 0 → tg x.2.1 u 6 = tg y.2.1 u 6 := fun u _ hu => z7 u (by omega)
    have hl := st_lev z3 y4 z4 y5 z5 (j := 0) (by decide) h6 (z6 0 (by decide) (by decide))
    have g2' : tg y.2.1 t 6 = 0 := by rw [← h6 t ht' g1']; exact g2
    have := y8 t ht' g1' g2'
    show 0 ≤ runS x.2.1 t (levS x.2.1 x.2.2 0) ∧ runS x.2.1 t (levS x.2.1 x.2.2 0) ≤ (fullS x.2.1 t).toInt64
    rw [hl, st_run z3 y4 ht', st_full z3]
    exact this
theorem settle_quiet (h : wfN N) (hq : Quiet N S) : settleS N S = (0, N, S) := by
  unfold settleS
  rw [sLeg_quiet h (by decide) (hq 0 (by decide)), sLeg_quiet h (by decide) (hq 1 (by decide))]
  rfl
end SETTLE2

