/-! SETTLE, the class: a leg, the whole -/
def Settled (R : RowS) (N : Nat → Int32) (S : Nat → Int64) : Prop :=
  Rel R N S ∧ Cach R N ∧ (∀ j, j < 2 → R.2 (j + 2) 6 = levS N S j) ∧ (∀ t, t < cnt N → R.1 (t + 5) 9 = (colS N t (levS N S (lgOf N t))).toInt32)
theorem cach_hi {R : RowS} {N : Nat → Int32} {t : Nat} {v : Int32} (q : Cach R N) : Cach (si R (t + 5) 9 v) N := fun u hu => by
  rw [si_ne (Or.inr (by decide)), si_ne (Or.inr (by decide))]
  exact q u hu
theorem c_setleg {j : Nat} (hj : j < 2) {n : Nat} (hn : 60 < n) : ∀ (k : Nat) (N : Nat → Int32) (S : Nat → Int64) (R : RowS) (acc now : Int32) (round m : Nat), wfN N → wfS N S → wh N (cnt N) < k → Rel R N S → Cach R N → round + k ≤ 13 → k + 1 < m → ¬ now ≤ 0 → ∃ R', wloop (fun t : Int32 × Int32 × Int32 × RowS => l_X3_settleLeg_14 n (nI j) j t.1 t.2.1 t.2.2.1 t.2.2.2) m (acc, now, nI round, R) = some (acc + (sLeg j k N S).1, R') ∧ Rel R' (sLeg j k N S).2.1 (sLeg j k N S).2.2 ∧ Cach R' (sLeg j k N S).2.1 ∧ R'.2 (j + 2) 6 = levS (sLeg j k N S).2.1 (sLeg j k N S).2.2 j ∧ ∀ c, c ≠ j + 2 → R'.2 c 6 = R.2 c 6 := by
  intro k
  induction k with
  | zero => intro N S R acc now round m _ _ hk; omega
  | succ k ih =>
    intro N S R acc now round m h hS hk r q hr hm hnow
    obtain ⟨m, rfl⟩ : ∃ i, m = i + 2 := ⟨m - 2, by omega⟩
    have hc := cnt_le h
    have hw := wh_le (N := N) (cnt N)
    obtain ⟨c, y1, y2, y3, y4, y5, y6, y7, y8, y9, -⟩ := rnd_facts h hS hj
    have hs := rnd_wfS h hS hj
    obtain ⟨R1, b1, b2, b3, b4⟩ := c_breaks (R := sl R (j + 2) 6 (levS N S j)) h hS (rel_sl6 r) q hj sl_at hn
    have b5 : ∀ c, c ≠ j + 2 → R1.2 c 6 = R.2 c 6 := fun c hc => by rw [b4, sl_ne (Or.inl hc)]
    have b6 : R1.2 (j + 2) 6 = levS N S j := by rw [b4, sl_at]
    have st : l_X3_settleLeg_14 n (nI j) j acc now (nI round) R = some (.inl (acc + (rnd j N S).1, (rnd j N S).1, nI (round + 1), R1)) := by
      unfold l_X3_settleLeg_14
      rw [show (12 : Int32) = nI 12 from rfl, if_neg (by rw [nI_ltI (by omega) (by omega)]; omega), if_neg hnow, c_level h hS r q hj hn, ob_some, lt_eq, b1, ob_some]
      simp only [lt, nI_1]
    have wst : ∀ m, wloop (fun t : Int32 × Int32 × Int32 × RowS => l_X3_settleLeg_14 n (nI j) j t.1 t.2.1 t.2.2.1 t.2.2.2) (m + 1) (acc, now, nI round, R) = wloop (fun t : Int32 × Int32 × Int32 × RowS => l_X3_settleLeg_14 n (nI j) j t.1 t.2.1 t.2.2.1 t.2.2.2) m (acc + (rnd j N S).1, (rnd j N S).1, nI (round + 1), R1) := fun m => wl_st (f := fun t : Int32 × Int32 × Int32 × RowS => l_X3_settleLeg_14 n (nI j) j t.1 t.2.1 t.2.2.1 t.2.2.2) (s := (acc, now, nI round, R)) st
    rw [show m + 2 = (m + 1) + 1 from rfl, wst]
    unfold sLeg
    by_cases hz : (rnd j N S).1 = 0
    · have c0 : c = 0 := (nI_z (by omega)).mp (y1.symm.trans hz)
      have e := (y9 c0).1
      rw [if_pos hz]
      rw [e] at b2 b3 ⊢
      refine ⟨R1, wl_en ?_, b2, b3, b6, b5⟩
      show l_X3_settleLeg_14 n (nI j) j (acc + 0) 0 (nI (round + 1)) R1 = some (.inr (acc + 0, R1))
      unfold l_X3_settleLeg_14
      split
      · rfl
      · rw [if_pos (by decide)]
    · rw [if_neg hz]
      have c0 : c ≠ 0 := fun q => hz (by rw [y1, q]; rfl)
      generalize rnd j N S = y at y1 y2 y3 y4 hs b2 b3
      have hp : ¬ y.1 ≤ 0 := by rw [y1]; exact nI_nle (by omega) (by omega)
      obtain ⟨R2, d1, d2, d3, d4, d5⟩ := ih y.2.1 y.2.2 R1 (acc + y.1) y.1 (round + 1) (m + 1) y3 hs (by rw [st_cnt y2]; omega) b2 b3 (by omega) (by omega) hp
      exact ⟨R2, by rw [d1, Int32.add_assoc], d2, d3, d4, fun c hc => (d5 c hc).trans (b5 c hc)⟩
theorem c_settleLeg {j : Nat} (hj : j < 2) {n : Nat} (hn : 60 < n) {N : Nat → Int32} {S : Nat → Int64} {R : RowS} (h : wfN N) (hS : wfS N S) (r : Rel R N S) (q : Cach R N) : ∃ R', f_X3_settleLeg n R (nI j) = some ((sLeg j 13 N S).1, R') ∧ Rel R' (sLeg j 13 N S).2.1 (sLeg j 13 N S).2.2 ∧ Cach R' (sLeg j 13 N S).2.1 ∧ R'.2 (j + 2) 6 = levS (sLeg j 13 N S).2.1 (sLeg j 13 N S).2.2 j ∧ ∀ c, c ≠ j + 2 → R'.2 c 6 = R.2 c 6 := by
  have hc := cnt_le h
  have hw := wh_le (N := N) (cnt N)
  obtain ⟨R', d1, d2⟩ := c_setleg hj hn 13 N S R 0 1 0 n h hS (by omega) r q (by omega) (by omega) (by decide)
  refine ⟨R', ?_, d2⟩
  have e : wloop (fun t : Int32 × Int32 × Int32 × RowS => l_X3_settleLeg_14 n (nI j) j t.1 t.2.1 t.2.2.1 t.2.2.2) n (0, 1, 0, R) = some (0 + (sLeg j 13 N S).1, R') := d1
  unfold f_X3_settleLeg
  simp only [lt, c_legAt (R := R) hj]
  rw [e, Int32.zero_add]
  rfl
theorem c_caches {n : Nat} (hn : 60 < n) {N : Nat → Int32} {S : Nat → Int64} {R : RowS} (h : wfN N) (r : Rel R N S) : ∃ R', wloop (fun t : Int32 × RowS => l_X3_settle_2 t.1 t.2) n (0, R) = some R' ∧ Rel R' N S ∧ Cach R' N := by
  have hc := cnt_le h
  refine wl_rel (f := fun t : Int32 × RowS => l_X3_settle_2 t.1 t.2) (fun i s => s.1 = nI i ∧ Rel s.2 N S ∧ ∀ t, t < i → s.2.1 (t + 5) 7 = pullS N t ∧ s.2.1 (t + 5) 8 = menS N t) (fun p => Rel p N S ∧ Cach p N) (cnt N) (fun i s hi hs => ?_) (fun s hs => ?_) (cnt N) 0 n (0, R) (by omega) (by omega) ⟨rfl, r, fun t ht => by omega⟩
  · obtain ⟨z, R1⟩ := s
    obtain ⟨g1, g2, g3⟩ := hs
    simp only at g1 g2 g3
    subst g1
    have d1 := (h.2.2.2.2.1 _ (lgOf_lt h hi)).1
    have d2 := bore_bd h hi
    unfold bd at d1
    have f0 := g2.2.2.2.2.2 i hi 0 (by decide)
    have f1 := g2.2.2.2.2.2 i hi 1 (by decide)
    have f2 := g2.2.2.2.2.2 i hi 2 (by decide)
    have l0 := (g2.2.2.2.2.1 _ (lgOf_lt h hi)).1
    have l2 := (g2.2.2.2.2.1 _ (lgOf_lt h hi)).2.2.1
    refine ⟨(nI (i + 1), si (si R1 (i + 5) 7 (pullS N i)) (i + 5) 8 (menS N i)), ?_, rfl, rel_hi (rel_hi g2 (by decide)) (by decide), fun t ht => ?_⟩
    · show l_X3_settle_2 (nI i) R1 = _
      unfold l_X3_settle_2
      rw [g2.2.2.1, n2 h, if_neg (by rw [nI_leI (by omega) (by omega)]; omega), c_tubeAt (show i < 12 by omega)]
      simp only [lt, f0, tg0 h hi, c_legAt (lgOf_lt h hi), f1, tg1 h hi, c_press (ptOf_lt h hi), l0]
      rw [if_neg (i32_ne (by omega)), g2.2.1, g2.2.2.2.1 _ (ptOf_lt h hi)]
      unfold b_X3_settle_59 b_X3_settle_83
      simp only [lt]
      have e2 : (si R1 (i + 5) 7 (((N 1 - N (4 + ptOf N i)) * 1000) / lg N (lgOf N i) 0)).1 (i + 5) 2 = tg N i 2 := by rw [si_ne (Or.inr (by decide))]; exact f2
      have e3 : (si R1 (i + 5) 7 (((N 1 - N (4 + ptOf N i)) * 1000) / lg N (lgOf N i) 0)).1 (lgOf N i + 2) 2 = lg N (lgOf N i) 2 := by rw [si_ne (Or.inr (by decide))]; exact l2
      rw [e2, e3, if_neg (i32_ne (by omega)), nI_1]
      rfl
    · by_cases q : t = i
      · subst q
        exact ⟨by rw [si_ne (Or.inr (by decide)), si_at], by rw [si_at]⟩
      · have := g3 t (by omega)
        exact ⟨by rw [si_ne (Or.inl (by omega)), si_ne (Or.inl (by omega))]; exact this.1, by rw [si_ne (Or.inl (by omega)), si_ne (Or.inl (by omega))]; exact this.2⟩
  · obtain ⟨z, R1⟩ := s
    obtain ⟨g1, g2, g3⟩ := hs
    simp only at g1 g2 g3
    refine ⟨R1, ?_, g2, g3⟩
    show l_X3_settle_2 z R1 = _
    unfold l_X3_settle_2
    rw [g2.2.2.1, n2 h, g1, if_pos (by rw [nI_leI (by omega) (by omega)]; omega)]
theorem c_columns {n : Nat} (hn : 60 < n) {N : Nat → Int32} {S : Nat → Int64} {R : RowS} (h : wfN N) (r : Rel R N S) (q : Cach R N) (hL : ∀ j, j < 2 → R.2 (j + 2) 6 = levS N S j) : ∃ R', wloop (fun t : Int32 × RowS => l_X3_settle_106 t.1 t.2) n (0, R) = some R' ∧ Settled R' N S := by
  have hc := cnt_le h
  refine wl_rel (f := fun t : Int32 × RowS => l_X3_settle_106 t.1 t.2) (fun i s => s.1 = nI i ∧ Rel s.2 N S ∧ Cach s.2 N ∧ (∀ j, j < 2 → s.2.2 (j + 2) 6 = levS N S j) ∧ ∀ t, t < i → s.2.1 (t + 5) 9 = (colS N t (levS N S (lgOf N t))).toInt32) (fun p => Settled p N S) (cnt N) (fun i s hi hs => ?_) (fun s hs => ?_) (cnt N) 0 n (0, R) (by omega) (by omega) ⟨rfl, r, q, hL, fun t ht => by omega⟩
  · obtain ⟨z, R1⟩ := s
    obtain ⟨g1, g2, g3, g4, g5⟩ := hs
    simp only at g1 g2 g3 g4 g5
    subst g1
    have f0 := g2.2.2.2.2.2 i hi 0 (by decide)
    refine ⟨(nI (i + 1), si R1 (i + 5) 9 (colS N i (levS N S (lgOf N i))).toInt32), ?_, rfl, rel_hi g2 (by decide), cach_hi g3, g4, fun t ht => ?_⟩
    · show l_X3_settle_106 (nI i) R1 = _
      unfold l_X3_settle_106
      rw [g2.2.2.1, n2 h, if_neg (by rw [nI_leI (by omega) (by omega)]; omega), c_tubeAt (show i < 12 by omega)]
      simp only [lt, f0, tg0 h hi, c_legAt (lgOf_lt h hi), g4 _ (lgOf_lt h hi), c_col h g2 g3 hi, nI_1]
    · by_cases q : t = i
      · subst q; rw [si_at]
      · rw [si_ne (Or.inl (by omega))]; exact g5 t (by omega)
  · obtain ⟨z, R1⟩ := s
    obtain ⟨g1, g2, g3, g4, g5⟩ := hs
    simp only at g1 g2 g3 g4 g5
    refine ⟨R1, ?_, g2, g3, g4, g5⟩
    show l_X3_settle_106 z R1 = _
    unfold l_X3_settle_106
    rw [g2.2.2.1, n2 h, g1, if_pos (by rw [nI_leI (by omega) (by omega)]; omega)]
theorem c_settle {n : Nat} (hn : 60 < n) {N : Nat → Int32} {S : Nat → Int64} {R : RowS} (h : wfN N) (hS : wfS N S) (r : Rel R N S) : ∃ R', f_X3_settle n R = some ((settleS N S).1, R') ∧ Settled R' (settleS N S).2.1 (settleS N S).2.2 := by
  have hc := cnt_le h
  have hw := wh_le (N := N) (cnt N)
  obtain ⟨R1, a1, a2, a3⟩ := c_caches hn h r
  obtain ⟨R2, b1, b2, b3, b4, b5⟩ := c_settleLeg (j := 0) (by decide) hn h hS a2 a3
  obtain ⟨c, y1, y2, y3, y4, y5, y6, y7, y8⟩ := sLeg_facts (j := 0) (by decide) 13 N S h hS (by omega)
  have hset : ∀ a b, a = sLeg 0 13 N S → b = sLeg 1 13 a.2.1 a.2.2 → settleS N S = (a.1 + b.1, b.2) := by
    intro a b ha hb
    unfold settleS
    rw [← ha, ← hb]
  have hset := hset _ _ rfl rfl
  generalize sLeg 0 13 N S = a at b1 b2 b3 b4 y1 y2 y3 y4 y5 y6 y7 y8 hset
  have hw2 := wh_le (N := a.2.1) (cnt N)
  obtain ⟨R3, c1, c2, c3, c4, c5⟩ := c_settleLeg (j := 1) (by decide) hn y4 y5 b2 b3
  obtain ⟨d, z1, z2, z3, z4, z5, z6, z7, z8⟩ := sLeg_facts (j := 1) (by decide) 13 _ _ y4 y5 (by rw [st_cnt y3]; omega)
  generalize sLeg 1 13 a.2.1 a.2.2 = b at c1 c2 c3 c4 z1 z2 z3 z4 z5 z6 z7 z8 hset
  rw [hset]
  have hl := st_lev z3 y4 z4 y5 z5 (j := 0) (by decide) (fun u _ hu => z7 u (by omega)) (z6 0 (by decide) (by decide))
  have hL : ∀ j, j < 2 → R3.2 (j + 2) 6 = levS b.2.1 b.2.2 j := by
    intro j hj
    rcases (show j = 1 ∨ j = 0 by omega) with rfl | rfl
    · exact c4
    · rw [c5 _ (by decide), b4, hl]
  obtain ⟨R4, e1, e2⟩ := c_columns hn z4 c2 c3 hL
  refine ⟨R4, ?_, e2⟩
  have b1' : f_X3_settleLeg n R1 0 = _ := b1
  have c1' : f_X3_settleLeg n R2 1 = _ := c1
  unfold f_X3_settle
  rw [a1, ob_some]
  unfold b_X3_settle_92
  rw [b1', ob_some, lt_eq, c1', ob_some, lt_eq, lt_eq, e1]
  rfl

