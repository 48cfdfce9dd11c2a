/-! OPERATIONS of the class alone -/
section OPSO
variable {P : RowsS} {G : GlbS} {N : Nat → Int32} {S : Nat → Int64}
theorem o_setPressure (g : Good (P 0) N S) (hI : IH G) {p : Nat} (hp : (p : Int) < (N 0).toInt) {v : Int32} (hv : bd v 0 99999) : ∃ y P' G', f_X7_setPressure 200 P G (nI p) v = some (y, P', G') ∧ Jn P' G' := by
  obtain ⟨e1, p8⟩ := point_ok (G := G) g hp
  obtain ⟨P1, G1, y, R2, k1, k2, s1, s2⟩ := op_cell (c := 1) (k := p) (i := 4 + p) (v := v) g hI (press_wf g.1 p8 hv) (wfS_cell g.2.1 (by omega)) (press_rel g.1 g.2.2.2.2.1 p8)
  refine ⟨y, va_up P1 0 R2, G1, ?_, s2⟩
  unfold f_X7_setPressure
  rw [e1, ob_some, within_bd 0 99999 hv rfl rfl, ob_some, k1, ob_some]
  simp only [lt, c_presses p8, va_up_self, up_up, k2, s1, ob_some]
theorem o_setReference (g : Good (P 0) N S) (hI : IH G) {v : Int32} (hv : bd v 0 99999) : ∃ y P' G', f_X7_setReference 200 P G v = some (y, P', G') ∧ Jn P' G' := by
  have h := g.1
  obtain ⟨P1, G1, y, R2, k1, k2, s1, s2⟩ := op_cell (c := 0) (k := 1) (i := 1) (v := v) g hI (wf_cell h (by omega) (fun e => hv) (fun q hq e => by omega) (fun j hj => ⟨by omega, by omega, by omega⟩) (fun t ht => ⟨by omega, by omega, by omega, by omega, by omega, by omega, by omega⟩)) (wfS_cell g.2.1 (by omega)) (rel_cell h g.2.2.2.2.1 (by omega) (fun k hk => by omega) (fun q hq => by omega) (fun j hj k hk => by omega) (fun t ht k hk => by omega))
  refine ⟨y, va_up P1 0 R2, G1, ?_, s2⟩
  unfold f_X7_setReference
  rw [within_bd 0 99999 hv rfl rfl, ob_some, k1, ob_some]
  simp only [lt, va_up_self, up_up, k2, s1, ob_some]
theorem o_sweep (g : Good (P 0) N S) (hI : IH G) {p : Nat} (hp : (p : Int) < (N 0).toInt) {v : Int32} (hv : bd v 0 99999) {c : Nat} (hc : 1 ≤ c ∧ c ≤ 50) : ∃ y P' G', f_X7_sweep 200 P G (nI p) v (nI c) = some (y, P', G') ∧ Jn P' G' := by
  obtain ⟨e1, p8⟩ := point_ok (G := G) g hp
  obtain ⟨P1, G1, k1, k2, k3⟩ := keep_good g hI
  have g1 : Good (P1 0) N S := by rw [k2]; exact g
  obtain ⟨P', c1, c2, c3, c4⟩ := c_sweep g1 p8 hc (v := v) (g.1.2.2.2.1 p p8) hv
  have x1 : (1 : Int32).toInt = 1 := rfl
  have x2 : (50 : Int32).toInt = 50 := rfl
  clear c4
  generalize sw N S p (fun k => N (4 + p) + ((v - N (4 + p)) * nI k) / nI c) c = y at c1 c2
  refine ⟨y.1, P', G1, ?_, ⟨_, _, c2⟩, k3⟩
  unfold f_X7_sweep
  rw [e1, ob_some, within_bd 0 99999 hv rfl rfl, ob_some, within_ok (by rw [nI_toInt (by omega), x1]; omega) (by rw [nI_toInt (by omega), x2]; omega), ob_some, k1, ob_some]
  simp only [lt, k2, c_press p8, g.2.2.2.2.1.2.2.2.1 p p8]
  rw [c1]
  rfl
theorem o_setSlant (g : Good (P 0) N S) (hI : IH G) {t : Nat} (ht : t < cnt N) {v : Int32} (hv : bd v 50 1000) : ∃ y P' G', f_X7_setSlant 200 P G (nI t) v = some (y, P', G') ∧ Jn P' G' := by
  have h := g.1
  have hc := cnt_le h
  obtain ⟨P1, G1, y, R2, k1, k2, s1, s2⟩ := op_cell (c := t + 5) (k := 3) (i := 18 + 7 * t + 3) (v := v) g hI (wf_cell h (by omega) (fun e => by omega) (fun q hq e => by omega) (fun j hj => ⟨by omega, by omega, by omega⟩) (fun u hu => ⟨by omega, by omega, by omega, fun _ => hv, by omega, by omega, by omega⟩)) (wfS_cell g.2.1 (by omega)) (rel_cell h g.2.2.2.2.1 (by omega) (fun k hk => by omega) (fun q hq => by omega) (fun j hj k hk => by omega) (fun t ht k hk => by omega))
  refine ⟨y, va_up P1 0 R2, G1, ?_, s2⟩
  unfold f_X7_setSlant
  rw [tube_ok g ht, ob_some, within_bd 50 1000 hv rfl rfl, ob_some, k1, ob_some]
  simp only [lt, c_tubeAt (show t < 12 by omega), va_up_self, up_up, k2, s1, ob_some]
theorem o_setCurve (g : Good (P 0) N S) (hI : IH G) {j : Nat} (hj : j < 2) {v : Int32} (hv : bd v (-9999) 9999) : ∃ y P' G', f_X7_setCurve 200 P G (nI j) v = some (y, P', G') ∧ Jn P' G' := by
  have h := g.1
  obtain ⟨P1, G1, y, R2, k1, k2, s1, s2⟩ := op_cell (c := j + 2) (k := 2) (i := 12 + 3 * j + 2) (v := v) g hI (wf_cell h (by omega) (fun e => by omega) (fun q hq e => by omega) (fun u hu => ⟨by omega, by omega, fun _ => hv⟩) (fun u hu => ⟨by omega, by omega, by omega, by omega, by omega, by omega, by omega⟩)) (wfS_cell g.2.1 (by omega)) (rel_cell h g.2.2.2.2.1 (by omega) (fun k hk => by omega) (fun q hq => by omega) (fun j hj k hk => by omega) (fun t ht k hk => by omega))
  refine ⟨y, va_up P1 0 R2, G1, ?_, s2⟩
  unfold f_X7_setCurve
  rw [leg_ok hj, ob_some, within_bd (-9999) 9999 hv rfl rfl, ob_some, k1, ob_some]
  simp only [lt, c_legAt hj, va_up_self, up_up, k2, s1, ob_some]
theorem o_mend (g : Good (P 0) N S) (hI : IH G) {t : Nat} (ht : t < cnt N) : ∃ y P' G', f_X7_mend 200 P G (nI t) = some (y, P', G') ∧ Jn P' G' := by
  have h := g.1
  have hc := cnt_le h
  by_cases h6 : (P 0).1 (t + 5) 6 = 0
  · refine ⟨-2, P, G, ?_, ⟨N, S, g⟩, hI⟩
    unfold f_X7_mend
    rw [tube_ok g ht, ob_some]
    simp only [lt, c_tubeAt (R := P 0) (show t < 12 by omega)]
    rw [if_pos h6]
  · obtain ⟨P1, G1, y, R2, k1, k2, s1, s2⟩ := op_cell (c := t + 5) (k := 6) (i := 18 + 7 * t + 6) (v := 0) g hI (wf_cell h (by omega) (fun e => by omega) (fun q hq e => by omega) (fun j hj => ⟨by omega, by omega, by omega⟩) (fun u hu => ⟨by omega, by omega, by omega, by omega, by omega, by omega, fun _ => by unfold bd; decide⟩)) (wfS_cell g.2.1 (by omega)) (rel_cell h g.2.2.2.2.1 (by omega) (fun k hk => by omega) (fun q hq => by omega) (fun j hj k hk => by omega) (fun t ht k hk => by omega))
    refine ⟨R2.1 (t + 5) 6, va_up P1 0 R2, G1, ?_, s2⟩
    unfold f_X7_mend
    rw [tube_ok g ht, ob_some]
    simp only [lt, c_tubeAt (R := P 0) (show t < 12 by omega)]
    rw [if_neg h6, k1, ob_some]
    simp only [va_up_self, up_up, k2, s1, ob_some]
theorem o_setMark (g : Good (P 0) N S) (hI : IH G) {t : Nat} (ht : t < cnt N) : ∃ y P' G', f_X7_setMark 200 P G (nI t) = some (y, P', G') ∧ Jn P' G' := by
  have h := g.1
  have hc := cnt_le h
  unfold f_X7_setMark
  rw [tube_ok g ht, ob_some]
  simp only [lt, c_tubeAt (R := P 0) (show t < 12 by omega), c_tg g ht (show 6 < 7 by decide), c_column g ht]
  by_cases h6 : tg N t 6 = 0
  · rw [if_pos h6]
    obtain ⟨v, hv⟩ : ∃ v, v = -(columnS N S t / 10) := ⟨_, rfl⟩
    rw [← hv]
    by_cases hm : (-9999) ≤ v
    · have hcol := column_int h g.2.1 ht
      have hful := full_int h ht
      have e10 : (10 : Int32).toInt = 10 := rfl
      have em : (-9999 : Int32).toInt = -9999 := rfl
      have d1 : (columnS N S t / 10).toInt = (columnS N S t).toInt / 10 := by rw [i32_div (by omega), e10, Int.tdiv_eq_ediv_of_nonneg (by omega)]
      have d2 : v.toInt = -((columnS N S t).toInt / 10) := by
        rw [hv, ← Int32.zero_sub, i32_sub (by rw [d1, show (0 : Int32).toInt = 0 from rfl]; omega), d1, show (0 : Int32).toInt = 0 from rfl]; omega
      have hb : bd v (-9999) 9999 := by rw [i32_le, em] at hm; unfold bd; omega
      obtain ⟨P1, G1, k1, k2, k3⟩ := keep_good g hI
      have mg := mark_good g ht hb
      refine ⟨v, va_up P1 0 (si (P 0) (t + 5) 5 v), G1, ?_, ⟨_, _, by rw [va_up_self]; exact mg.1⟩, k3⟩
      rw [if_pos hm, k1, ob_some]
      simp only [k2]
    · rw [if_neg hm]
      exact ⟨_, P, G, rfl, ⟨N, S, g⟩, hI⟩
  · rw [if_neg h6]
    exact ⟨_, P, G, rfl, ⟨N, S, g⟩, hI⟩
theorem o_refill (g : Good (P 0) N S) (hI : IH G) {j : Nat} (hj : j < 2) {v : Int32} (hv : bd v 1 99999999) : ∃ y P' G', f_X7_refill 200 P G (nI j) v = some (y, P', G') ∧ Jn P' G' := by
  have h := g.1
  have r := g.2.2.2.2.1
  have d3 : (2000000000 : Int64).toInt = 2000000000 := rfl
  have hs := g.2.1 j hj
  have hsb := S_bd h g.2.1 hj
  have hv' := hv
  unfold bd at hv'
  have s1 : (S (4 + j) + v.toInt64).toInt = (S (4 + j)).toInt + v.toInt := by rw [i64_add (by rw [i32_ext]; omega), i32_ext]
  have s2 : (S j + v.toInt64).toInt = (S j).toInt + v.toInt := by rw [i64_add (by rw [i32_ext]; omega), i32_ext]
  unfold f_X7_refill
  rw [leg_ok hj, ob_some, within_bd 1 99999999 hv rfl rfl, ob_some]
  simp only [lt, c_legAt (R := P 0) hj, (r.2.2.2.2.1 j hj).2.2.2.2.2]
  by_cases hq : S (4 + j) + v.toInt64 ≤ 2000000000
  · have hq' := hq
    rw [i64_le, s1, d3] at hq'
    rw [if_pos hq]
    obtain ⟨P1, G1, k1, k2, k3⟩ := keep_good g hI
    obtain ⟨S', hS'⟩ : ∃ S', S' = va_up (va_up S j (S j + v.toInt64)) (4 + j) (S (4 + j) + v.toInt64) := ⟨_, rfl⟩
    have w : wfS N S' := by
      intro i hi
      have hsi := g.2.1 i hi
      by_cases q : i = j
      · subst q
        have x1 : S' i = S i + v.toInt64 := by rw [hS', va_up_ne _ _ (by omega), va_up_self]
        have x2 : S' (4 + i) = S (4 + i) + v.toInt64 := by rw [hS', va_up_self]
        rw [x1, x2, s1, s2]
        omega
      · have x1 : S' i = S i := by rw [hS', va_up_ne _ _ (by omega), va_up_ne _ _ q]
        have x2 : S' (4 + i) = S (4 + i) := by rw [hS', va_up_ne _ _ (by omega), va_up_ne _ _ (by omega)]
        rw [x1, x2]
        exact hsi
    have ac : Acc S' := by
      intro i hi
      have x3 : S' (2 + i) = S (2 + i) := by rw [hS', va_up_ne _ _ (by omega), va_up_ne _ _ (by omega)]
      by_cases q : i = j
      · subst q
        have x1 : S' i = S i + v.toInt64 := by rw [hS', va_up_ne _ _ (by omega), va_up_self]
        have x2 : S' (4 + i) = S (4 + i) + v.toInt64 := by rw [hS', va_up_self]
        rw [x1, x2, x3]
        exact i64_acc2 (g.2.2.1 i hi)
      · have x1 : S' i = S i := by rw [hS', va_up_ne _ _ (by omega), va_up_ne _ _ q]
        have x2 : S' (4 + i) = S (4 + i) := by rw [hS', va_up_ne _ _ (by omega), va_up_ne _ _ (by omega)]
        rw [x1, x2, x3]
        exact g.2.2.1 i hi
    have r1 := rel_sl3 (v := S j + v.toInt64) r hj
    have r2 := rel_sl5 (v := S (4 + j) + v.toInt64) r1 hj
    rw [← hS'] at r2
    obtain ⟨y, R2, f1, f2⟩ := fin_own (P1 := P1) k3 h w ac r2
    have y3 : (P 0).2 (j + 2) 3 = S j := (r.2.2.2.2.1 j hj).2.2.2.1
    have y5 : (sl (P 0) (j + 2) 3 (S j + v.toInt64)).2 (j + 2) 5 = S (4 + j) := by
      rw [(r1.2.2.2.2.1 j hj).2.2.2.2.2, va_up_ne _ _ (by omega)]
    refine ⟨y, va_up P1 0 R2, G1, ?_, f2⟩
    rw [k1, ob_some]
    simp only [va_up_self, up_up, k2, y3, y5, f1, ob_some]
  · rw [if_neg hq]
    exact ⟨_, P, G, rfl, ⟨N, S, g⟩, hI⟩
theorem o_addTube (g : Good (P 0) N S) (hI : IH G) {j : Nat} (hj : j < 2) {p : Nat} (hp : (p : Int) < (N 0).toInt) {a3 a4 a5 : Int32} (h3 : bd a3 1 20) (h4 : bd a4 50 1000) (h5 : bd a5 10 2000) : ∃ y P' G', f_X7_addTube 200 P G (nI j) (nI p) a3 a4 a5 = some (y, P', G') ∧ Jn P' G' := by
  have h := g.1
  have hc := cnt_le h
  have r := g.2.2.2.2.1
  obtain ⟨e1, p8⟩ := point_ok (G := G) g hp
  unfold f_X7_addTube
  rw [leg_ok hj, ob_some, e1, ob_some, within_bd 1 20 h3 rfl rfl, ob_some, within_bd 50 1000 h4 rfl rfl, ob_some, within_bd 10 2000 h5 rfl rfl, ob_some]
  by_cases hq : cnt N < 12
  · have q1 : nI (cnt N) < nI 12 := nI_lt hq (by omega)
    obtain ⟨P1, G1, k1, k2, k3⟩ := keep_good g hI
    have w := addN_wf h hq (a := nI j) (b := nI p) (show bd (nI j) 0 1 by unfold bd; rw [nI_toInt (by omega)]; omega) (by rw [nI_toInt (by omega)]; omega) h3 h4 h5 (show bd (0 : Int32) (-9999) 9999 by unfold bd; decide)
    have ws := addN_wfS g.2.1 (t := cnt N) (a := nI j) (b := nI p) (c := a3) (d := a4) (e := a5) (f := 0)
    obtain ⟨y, R2, f1, f2⟩ := fin_own (P1 := P1) k3 w ws g.2.2.1 (addR_rel h r hq (a := nI j) (b := nI p) (c := a3) (d := a4) (e := a5))
    refine ⟨R2.1 0 2 - 1, va_up P1 0 R2, G1, ?_, f2⟩
    have hap : f_X3_append (P 0) = (cnt N, si (P 0) 0 2 (nI (cnt N + 1))) := by
      unfold f_X3_append
      rw [r.2.2.1, n2 h, show (12 : Int32) = nI 12 from rfl, if_pos q1, nI_1, lt_eq, si_at, nI_pred, c_tubeAt (by omega)]
      rfl
    have hR : (va_up (va_up P1 0 (si (P 0) 0 2 (nI (cnt N + 1)))) 0 (stT (va_up P1 0 (si (P 0) 0 2 (nI (cnt N + 1))) 0) (cnt N + 5) (f_X6_stand ((va_up P1 0 (si (P 0) 0 2 (nI (cnt N + 1))) 0).1 (cnt N + 5)) (nI j) (nI p)))) = va_up P1 0 (stT (si (P 0) 0 2 (nI (cnt N + 1))) (cnt N + 5) (f_X6_stand ((si (P 0) 0 2 (nI (cnt N + 1))).1 (cnt N + 5)) (nI j) (nI p))) := by
      rw [up_up, va_up_self]
    rw [r.2.2.1, n2 h, show (12 : Int32) = nI 12 from rfl, if_pos q1, k1, ob_some]
    simp only [lt, k2, hap]
    unfold upT
    simp only [hR, va_up_self, up_up, stT_1]
    have hA : stT (stT (si (P 0) 0 2 (nI (cnt N + 1))) (cnt N + 5) (f_X6_stand ((si (P 0) 0 2 (nI (cnt N + 1))).1 (cnt N + 5)) (nI j) (nI p))) (cnt N + 5) (f_X6_shape (f_X6_stand ((si (P 0) 0 2 (nI (cnt N + 1))).1 (cnt N + 5)) (nI j) (nI p)) a3 a4 a5) = addR (P 0) (cnt N) (nI j) (nI p) a3 a4 a5 := rfl
    rw [hA, f1, ob_some]
  · rw [if_neg (by rw [r.2.2.1, n2 h, show (12 : Int32) = nI 12 from rfl, nI_ltI (by omega) (by omega)]; omega)]
    exact ⟨_, P, G, rfl, ⟨N, S, g⟩, hI⟩
theorem o_dropTube (g : Good (P 0) N S) (hI : IH G) {t : Nat} (ht : t < cnt N) : ∃ y P' G', f_X7_dropTube 200 P G (nI t) = some (y, P', G') ∧ Jn P' G' := by
  have h := g.1
  obtain ⟨P1, G1, k1, k2, k3⟩ := keep_good g hI
  obtain ⟨R', r1, r2⟩ := c_remove h g.2.2.2.2.1 ht
  obtain ⟨y, R2, f1, f2⟩ := fin_own (P1 := P1) k3 (dq_wf h ht) (dq_wfS (t := t) g.2.1 (c := cnt N) (i := 18 + 7 * (cnt N - 1))) g.2.2.1 r2
  refine ⟨R2.1 0 2, va_up P1 0 R2, G1, ?_, f2⟩
  unfold f_X7_dropTube
  rw [tube_ok g ht, ob_some, k1, ob_some]
  simp only [lt, k2, r1, ob_some, va_up_self, up_up, f1]
end OPSO
