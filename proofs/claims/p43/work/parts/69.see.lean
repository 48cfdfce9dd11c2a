/-! SEE: what the law sees of a good row, call by call -/
section SEE
variable {P : RowsS} {G : GlbS} {N : Nat → Int32} {S : Nat → Int64} {t : Nat}
theorem t_num (g : Good (P 0) N S) (ht : t < cnt N) {k : Int32} (h0 : ¬ k < 0) (h1 : k ≤ 10) : f_X7_tube P G (nI t) k = some (f_X3_numberOf (P 0) (nI t) k) := by
  unfold f_X7_tube
  rw [tube_ok g ht, ob_some, if_neg h0, if_pos h1, lt_eq]
theorem t_0 (g : Good (P 0) N S) (ht : t < cnt N) : f_X7_tube P G (nI t) 0 = some (nI (lgOf N t)) := by
  have hc := cnt_le g.1
  rw [t_num g ht (by decide) (by decide), c_num0 (by omega), c_tg g ht (by decide), tg0 g.1 ht]
theorem t_1 (g : Good (P 0) N S) (ht : t < cnt N) : f_X7_tube P G (nI t) 1 = some (nI (ptOf N t)) := by
  have hc := cnt_le g.1
  rw [t_num g ht (by decide) (by decide), c_num1 (by omega), c_tg g ht (by decide), tg1 g.1 ht]
theorem t_2 (g : Good (P 0) N S) (ht : t < cnt N) : f_X7_tube P G (nI t) 2 = some (tg N t 2) := by
  have hc := cnt_le g.1
  rw [t_num g ht (by decide) (by decide), c_num2 (by omega), c_tg g ht (by decide)]
theorem t_3 (g : Good (P 0) N S) (ht : t < cnt N) : f_X7_tube P G (nI t) 3 = some (tg N t 3) := by
  have hc := cnt_le g.1
  rw [t_num g ht (by decide) (by decide), c_num3 (by omega), c_tg g ht (by decide)]
theorem t_4 (g : Good (P 0) N S) (ht : t < cnt N) : f_X7_tube P G (nI t) 4 = some (tg N t 4) := by
  have hc := cnt_le g.1
  rw [t_num g ht (by decide) (by decide), c_num4 (by omega), c_tg g ht (by decide)]
theorem t_5 (g : Good (P 0) N S) (ht : t < cnt N) : f_X7_tube P G (nI t) 5 = some (tg N t 5) := by
  have hc := cnt_le g.1
  rw [t_num g ht (by decide) (by decide), c_num5 (by omega), c_tg g ht (by decide)]
theorem t_6 (g : Good (P 0) N S) (ht : t < cnt N) : f_X7_tube P G (nI t) 6 = some (tg N t 6) := by
  have hc := cnt_le g.1
  rw [t_num g ht (by decide) (by decide), c_num6 (by omega), c_tg g ht (by decide)]
theorem t_7 (g : Good (P 0) N S) (ht : t < cnt N) : f_X7_tube P G (nI t) 7 = some (columnS N S t) := by
  have hc := cnt_le g.1
  rw [t_num g ht (by decide) (by decide), c_num7 (by omega), c_column g ht]
theorem t_8 (g : Good (P 0) N S) (ht : t < cnt N) : f_X7_tube P G (nI t) 8 = some (readS N S t) := by
  have hc := cnt_le g.1
  rw [t_num g ht (by decide) (by decide), c_num8 (by omega), c_reading g ht]
theorem t_9 (g : Good (P 0) N S) (ht : t < cnt N) : f_X7_tube P G (nI t) 9 = some (pullS N t) := by
  have hc := cnt_le g.1
  rw [t_num g ht (by decide) (by decide), c_num9 (by omega), (g.2.2.2.2.2.1 t ht).1]
theorem t_10 (g : Good (P 0) N S) (ht : t < cnt N) : f_X7_tube P G (nI t) 10 = some (menS N t) := by
  have hc := cnt_le g.1
  rw [t_num g ht (by decide) (by decide), c_num10 (by omega), (g.2.2.2.2.2.1 t ht).2]
theorem s_0 (g : Good (P 0) N S) : f_X7_size 200 P G 0 = some (N 0) := by
  unfold f_X7_size
  rw [if_pos rfl, g.2.2.2.2.1.1]
theorem s_1 (g : Good (P 0) N S) : f_X7_size 200 P G 1 = some (N 1) := by
  unfold f_X7_size
  rw [if_neg (by decide), if_pos rfl, g.2.2.2.2.1.2.1]
theorem s_2 (g : Good (P 0) N S) : f_X7_size 200 P G 2 = some (nI (cnt N)) := by
  unfold f_X7_size
  rw [if_neg (by decide), if_neg (by decide), if_pos rfl, g.2.2.2.2.1.2.2.1, n2 g.1]
theorem s_3 (g : Good (P 0) N S) : f_X7_size 200 P G 3 = some (cS N 0 (cnt N)) := by
  unfold f_X7_size
  rw [if_neg (by decide), if_neg (by decide), if_neg (by decide), if_pos rfl, c_state g.1 g.2.2.2.2.1 0 (by decide), ob_some]
theorem s_4 (g : Good (P 0) N S) : f_X7_size 200 P G 4 = some (cS N 1 (cnt N)) := by
  unfold f_X7_size
  rw [if_neg (by decide), if_neg (by decide), if_neg (by decide), if_neg (by decide), if_pos rfl, c_state g.1 g.2.2.2.2.1 1 (by decide), ob_some]
theorem s_5 (g : Good (P 0) N S) : f_X7_size 200 P G 5 = some (cS N 2 (cnt N)) := by
  unfold f_X7_size
  rw [if_neg (by decide), if_neg (by decide), if_neg (by decide), if_neg (by decide), if_neg (by decide), if_pos rfl, c_state g.1 g.2.2.2.2.1 2 (by decide), ob_some]
theorem s_6 (g : Good (P 0) N S) : f_X7_size 200 P G 6 = some (lS N 0 (cnt N)) := by
  unfold f_X7_size
  rw [if_neg (by decide), if_neg (by decide), if_neg (by decide), if_neg (by decide), if_neg (by decide), if_neg (by decide), if_pos rfl, c_inleg g.1 g.2.2.2.2.1 0 (by decide), ob_some]
theorem s_7 (g : Good (P 0) N S) : f_X7_size 200 P G 7 = some (lS N 1 (cnt N)) := by
  unfold f_X7_size
  rw [if_neg (by decide), if_neg (by decide), if_neg (by decide), if_neg (by decide), if_neg (by decide), if_neg (by decide), if_neg (by decide), if_pos rfl, c_inleg g.1 g.2.2.2.2.1 1 (by decide), ob_some]
theorem pr_ok (g : Good (P 0) N S) (ht : t < cnt N) : f_X7_pressure P G (nI (ptOf N t)) = some (N (4 + ptOf N t)) := by
  have h1 := (g.1.2.2.2.2.2 t ht).2
  have e : ptOf N t = (tg N t 1).toInt.toNat := rfl
  obtain ⟨e1, p8⟩ := point_ok (G := G) g (p := ptOf N t) (by omega)
  unfold f_X7_pressure
  rw [e1, ob_some, c_press p8, lt_eq, g.2.2.2.2.1.2.2.2.1 _ p8]
theorem l_0 (g : Good (P 0) N S) {j : Nat} (hj : j < 2) : f_X7_leg P G (nI j) 0 = some (lg N j 0) := by
  unfold f_X7_leg
  rw [leg_ok hj, ob_some, c_legAt hj, lt_eq, lt_eq, if_pos rfl, (g.2.2.2.2.1.2.2.2.2.1 j hj).1]
theorem l_1 (g : Good (P 0) N S) {j : Nat} (hj : j < 2) : f_X7_leg P G (nI j) 1 = some (lg N j 1) := by
  unfold f_X7_leg
  rw [leg_ok hj, ob_some, c_legAt hj, lt_eq, lt_eq, if_neg (by decide), if_pos rfl, (g.2.2.2.2.1.2.2.2.2.1 j hj).2.1]
theorem l_2 (g : Good (P 0) N S) {j : Nat} (hj : j < 2) : f_X7_leg P G (nI j) 2 = some (lg N j 2) := by
  unfold f_X7_leg
  rw [leg_ok hj, ob_some, c_legAt hj, lt_eq, lt_eq, if_neg (by decide), if_neg (by decide), if_pos rfl, (g.2.2.2.2.1.2.2.2.2.1 j hj).2.2.1]
theorem l_3 (g : Good (P 0) N S) {j : Nat} (hj : j < 2) : f_X7_leg P G (nI j) 3 = some ((levS N S j).toInt32) := by
  unfold f_X7_leg
  rw [leg_ok hj, ob_some, c_legAt hj, lt_eq, lt_eq, if_neg (by decide), if_neg (by decide), if_neg (by decide), if_pos rfl, g.2.2.2.2.2.2.1 j hj]
theorem a_0 (g : Good (P 0) N S) {j : Nat} (hj : j < 2) : f_X7_account 200 P G (nI j) 0 = some (S j) := by
  unfold f_X7_account
  rw [leg_ok hj, ob_some, c_legAt hj, lt_eq, lt_eq, g.2.2.2.2.2.2.1 j hj, c_vols g.1 g.2.2.2.2.1 g.2.2.2.2.2.1 (levS N S j) (n := 200) (by decide), ob_some, if_pos rfl, (g.2.2.2.2.1.2.2.2.2.1 j hj).2.2.2.1]
theorem a_1 (g : Good (P 0) N S) {j : Nat} (hj : j < 2) : f_X7_account 200 P G (nI j) 1 = some (volS N j (levS N S j) (cnt N)) := by
  unfold f_X7_account
  rw [leg_ok hj, ob_some, c_legAt hj, lt_eq, lt_eq, g.2.2.2.2.2.2.1 j hj, c_vols g.1 g.2.2.2.2.1 g.2.2.2.2.2.1 (levS N S j) (n := 200) (by decide), ob_some, if_neg (by decide), if_pos rfl]
theorem a_2 (g : Good (P 0) N S) {j : Nat} (hj : j < 2) : f_X7_account 200 P G (nI j) 2 = some (S (2 + j)) := by
  unfold f_X7_account
  rw [leg_ok hj, ob_some, c_legAt hj, lt_eq, lt_eq, g.2.2.2.2.2.2.1 j hj, c_vols g.1 g.2.2.2.2.1 g.2.2.2.2.2.1 (levS N S j) (n := 200) (by decide), ob_some, if_neg (by decide), if_neg (by decide), if_pos rfl, (g.2.2.2.2.1.2.2.2.2.1 j hj).2.2.2.2.1]
theorem a_3 (g : Good (P 0) N S) {j : Nat} (hj : j < 2) : f_X7_account 200 P G (nI j) 3 = some (S (4 + j)) := by
  unfold f_X7_account
  rw [leg_ok hj, ob_some, c_legAt hj, lt_eq, lt_eq, g.2.2.2.2.2.2.1 j hj, c_vols g.1 g.2.2.2.2.1 g.2.2.2.2.2.1 (levS N S j) (n := 200) (by decide), ob_some, if_neg (by decide), if_neg (by decide), if_neg (by decide), if_pos rfl, (g.2.2.2.2.1.2.2.2.2.1 j hj).2.2.2.2.2]
theorem a_4 (g : Good (P 0) N S) {j : Nat} (hj : j < 2) : f_X7_account 200 P G (nI j) 4 = some ((S j - ((lg N j 1).toInt64 * levS N S j)) - volS N j (levS N S j) (cnt N)) := by
  unfold f_X7_account
  rw [leg_ok hj, ob_some, c_legAt hj, lt_eq, lt_eq, g.2.2.2.2.2.2.1 j hj, c_vols g.1 g.2.2.2.2.1 g.2.2.2.2.2.1 (levS N S j) (n := 200) (by decide), ob_some, if_neg (by decide), if_neg (by decide), if_neg (by decide), if_neg (by decide), if_pos rfl, (g.2.2.2.2.1.2.2.2.2.1 j hj).2.2.2.1, (g.2.2.2.2.1.2.2.2.2.1 j hj).2.1]
theorem rm_0 (g : Good (P 0) N S) (ht : t < cnt N) (h6 : tg N t 6 = 0) : f_X7_room P G (nI t) = some (fullS N t - columnS N S t) := by
  have hc := cnt_le g.1
  unfold f_X7_room
  rw [tube_ok g ht, ob_some, c_tubeAt (show t < 12 by omega), lt_eq, lt_eq, c_tg g ht (by decide), if_pos h6, c_full g.2.2.2.2.1 ht, lt_eq, c_column g ht]
theorem rm_1 (g : Good (P 0) N S) (ht : t < cnt N) (h6 : ¬ tg N t 6 = 0) : f_X7_room P G (nI t) = some (-1) := by
  have hc := cnt_le g.1
  unfold f_X7_room
  rw [tube_ok g ht, ob_some, c_tubeAt (show t < 12 by omega), lt_eq, lt_eq, c_tg g ht (by decide), if_neg h6]
theorem run_ok (g : Good (P 0) N S) (ht : t < cnt N) (L : Int64) : f_L_run P G (nI t) L = some (runS N t L) := by
  have h1 := (g.1.2.2.2.2.2 t ht).2.2.2.2.1
  unfold bd at h1
  unfold f_L_run
  rw [t_9 g ht, ob_some, t_10 g ht, ob_some, t_3 g ht, ob_some, if_pos (i64_ne (by omega))]
  rfl
theorem i64_back {x : Int64} (h : -2147483648 ≤ x.toInt ∧ x.toInt ≤ 2147483647) : x.toInt32.toInt64 = x := by
  apply i64_eq
  rw [i32_ext, i64_32 h]
theorem lev_back (g : Good (P 0) N S) {j : Nat} (hj : j < 2) : (levS N S j).toInt32.toInt64 = levS N S j := by
  have := lev_bd2 g.1 g.2.1 hj
  exact i64_back (by omega)
theorem col_back (g : Good (P 0) N S) (ht : t < cnt N) : (columnS N S t).toInt64 = colS N t (levS N S (lgOf N t)) := by
  have h1 := lev_bd2 g.1 g.2.1 (lgOf_lt g.1 ht)
  have h2 := col_int g.1 ht (L := levS N S (lgOf N t)) (by omega)
  have h3 := col_bd g.1 ht (levS N S (lgOf N t)).toInt
  have h4 := full_int g.1 ht
  exact i64_back (by omega)
theorem col_run (g : Good (P 0) N S) (ht : t < cnt N) (h6 : tg N t 6 = 0) : 0 ≤ runS N t (levS N S (lgOf N t)) ∧ runS N t (levS N S (lgOf N t)) ≤ (fullS N t).toInt64 ∧ (columnS N S t).toInt64 = runS N t (levS N S (lgOf N t)) := by
  obtain ⟨q1, q2⟩ := g.2.2.2.1 _ (lgOf_lt g.1 ht) t ht rfl h6
  have h4 := full_int g.1 ht
  refine ⟨q1, q2, ?_⟩
  rw [col_back g ht]
  unfold colS
  rw [if_pos h6, col_alt (by rw [i32_ext]; omega), if_pos q1, if_pos q2]
theorem col_none (ht : ¬ tg N t 6 = 0) : columnS N S t = 0 := by
  unfold columnS colS
  rw [if_neg ht]
  rfl
theorem up3 {B : Nat → Int32} {s : Int32} {i : Nat} (hs : s = 0 ∨ s = 1 ∨ s = 2) (e : tg N i 6 = s) (hb : B 0 = cS N 0 i ∧ B 1 = cS N 1 i ∧ B 2 = cS N 2 i) : (va_up B s.toNatClampNeg (B s.toNatClampNeg + 1)) 0 = cS N 0 (i + 1) ∧ (va_up B s.toNatClampNeg (B s.toNatClampNeg + 1)) 1 = cS N 1 (i + 1) ∧ (va_up B s.toNatClampNeg (B s.toNatClampNeg + 1)) 2 = cS N 2 (i + 1) := by
  obtain ⟨b0, b1, b2⟩ := hb
  simp only [cS, e, ← b0, ← b1, ← b2]
  have z0 : (0 : Int32).toNatClampNeg = 0 := rfl
  have z1 : (1 : Int32).toNatClampNeg = 1 := rfl
  have z2 : (2 : Int32).toNatClampNeg = 2 := rfl
  rcases hs with rfl | rfl | rfl
  · rw [z0, va_up_self, va_up_ne _ _ (by decide), va_up_ne _ _ (by decide), if_pos rfl, if_neg (by decide), if_neg (by decide), Int32.add_zero, Int32.add_zero]
    exact ⟨rfl, rfl, rfl⟩
  · rw [z1, va_up_self, va_up_ne _ _ (by decide), va_up_ne _ _ (by decide), if_pos rfl, if_neg (by decide), if_neg (by decide), Int32.add_zero, Int32.add_zero]
    exact ⟨rfl, rfl, rfl⟩
  · rw [z2, va_up_self, va_up_ne _ _ (by decide), va_up_ne _ _ (by decide), if_pos rfl, if_neg (by decide), if_neg (by decide), Int32.add_zero, Int32.add_zero]
    exact ⟨rfl, rfl, rfl⟩
theorem st3 (h : wfN N) (ht : t < cnt N) : tg N t 6 = 0 ∨ tg N t 6 = 1 ∨ tg N t 6 = 2 := by
  have h6 := (h.2.2.2.2.2 t ht).2.2.2.2.2.2.2
  unfold bd at h6
  have : (tg N t 6).toInt = 0 ∨ (tg N t 6).toInt = 1 ∨ (tg N t 6).toInt = 2 := by omega
  rcases this with q | q | q
  · exact Or.inl (i32_eq q)
  · exact Or.inr (Or.inl (i32_eq q))
  · exact Or.inr (Or.inr (i32_eq q))
theorem at_203 (g : Good (P 0) N S) (ht : t < cnt N) (B : Nat → Int32) : b_L_areTubes_203 P G (nI t) B = some (.inl (nI (t + 1), B)) := by
  unfold b_L_areTubes_203
  rw [t_8 g ht, ob_some, t_7 g ht, ob_some, t_5 g ht, ob_some, if_pos (show readS N S t = columnS N S t / 10 + tg N t 5 from rfl), lt_eq, nI_1]
theorem at_step (g : Good (P 0) N S) (ht : t < cnt N) (B : Nat → Int32) : l_L_areTubes_6 P G (nI t) B = some (.inl (nI (t + 1), va_up B (tg N t 6).toNatClampNeg (B (tg N t 6).toNatClampNeg + 1))) := by
  have h := g.1
  have hc := cnt_le h
  have hj := lgOf_lt h ht
  have d0 := (h.2.2.2.2.1 _ hj).1
  have d2 := bore_bd h ht
  have h6 := (h.2.2.2.2.2 t ht).2.2.2.2.2.2.2
  unfold bd at d0 h6
  have hin : 0 ≤ (tg N t 6).toInt ∧ (tg N t 6).toInt < 3 := by omega
  have ef : 100 * tg N t 4 = fullS N t := rfl
  unfold l_L_areTubes_6
  rw [s_2 g, ob_some, if_neg (by rw [nI_leI (by omega) (by omega)]; omega), t_0 g ht, ob_some, t_6 g ht, ob_some, if_pos hin, if_pos hin, lt_eq, t_9 g ht, ob_some, s_1 g, ob_some, t_1 g ht, ob_some, pr_ok g ht, ob_some, l_0 g hj, ob_some, if_pos (i32_ne (by omega)), if_pos (show pullS N t = ((N 1 - N (4 + ptOf N t)) * 1000) / lg N (lgOf N t) 0 from rfl), t_10 g ht, ob_some, l_2 g hj, ob_some, t_2 g ht, ob_some, if_pos (i32_ne (by omega)), if_pos (show menS N t = lg N (lgOf N t) 2 / tg N t 2 from rfl), l_3 g hj, ob_some, lev_back g hj, run_ok g ht, ob_some, t_4 g ht, ob_some, lt_eq, ef]
  by_cases hz : tg N t 6 = 0
  · obtain ⟨q1, q2, q3⟩ := col_run g ht hz
    have e0 : (0 : Int64).toInt = 0 := rfl
    rw [if_pos hz, if_neg (by rw [i64_lt]; rw [i64_le] at q1; omega), if_neg (by rw [i64_lt]; rw [i64_le] at q2; omega), t_7 g ht, ob_some, if_pos q3, rm_0 g ht hz, ob_some, ob_some, if_pos rfl, at_203 g ht]
  · rw [if_neg hz, t_7 g ht, ob_some, if_pos (col_none hz), rm_1 g ht hz, ob_some, if_pos rfl, at_203 g ht]
theorem areTubes_ok (g : Good (P 0) N S) : f_L_areTubes P G = some true := by
  have hc := cnt_le g.1
  obtain ⟨r, k1, B, k2, k3, k4, k5⟩ := wl_rel (f := fun t : Int32 × (Nat → Int32) => l_L_areTubes_6 P G t.1 t.2) (fun i s => s.1 = nI i ∧ s.2 0 = cS N 0 i ∧ s.2 1 = cS N 1 i ∧ s.2 2 = cS N 2 i) (fun r => ∃ B : Nat → Int32, r = .inl B ∧ B 0 = cS N 0 (cnt N) ∧ B 1 = cS N 1 (cnt N) ∧ B 2 = cS N 2 (cnt N)) (cnt N) (fun i s hi hs => by
    obtain ⟨z, B⟩ := s
    obtain ⟨g1, g2⟩ := hs
    simp only at g1 g2
    subst g1
    exact ⟨_, at_step g hi B, rfl, up3 (st3 g.1 hi) rfl g2⟩) (fun s hs => by
    obtain ⟨z, B⟩ := s
    obtain ⟨g1, g2⟩ := hs
    simp only at g1 g2
    subst g1
    refine ⟨.inl B, ?_, B, rfl, g2⟩
    show l_L_areTubes_6 P G (nI (cnt N)) B = _
    unfold l_L_areTubes_6
    rw [s_2 g, ob_some, if_pos (by rw [nI_leI (by omega) (by omega)]; omega)]) (cnt N) 0 200 (0, fun _ => 0) (by omega) (by omega) ⟨rfl, rfl, rfl, rfl⟩
  subst k2
  have z0 : (0 : Int32).toNatClampNeg = 0 := rfl
  have z1 : (1 : Int32).toNatClampNeg = 1 := rfl
  have z2 : (2 : Int32).toNatClampNeg = 2 := rfl
  unfold f_L_areTubes
  rw [lt_eq, k1, ob_some]
  show b_L_areTubes_238 P G B = _
  unfold b_L_areTubes_238
  rw [s_3 g, ob_some, if_pos (by decide), z0, if_pos k3.symm, s_4 g, ob_some, if_pos (by decide), z1, if_pos k4.symm, s_5 g, ob_some, if_pos (by decide), z2, if_pos k5.symm]
-- the level
theorem sq_vol (h : wfN N) (ht : t < cnt N) (x : Int64) : x * (tg N t 2 * tg N t 2).toInt64 = (x * (tg N t 2).toInt64) * (tg N t 2).toInt64 := by
  have h1 := bore_bd h ht
  have h2 := mul_bd (a := (tg N t 2).toInt) (b := (tg N t 2).toInt) (A := 20) (B := 20) (by omega) (by omega)
  have e : (tg N t 2 * tg N t 2).toInt64 = (tg N t 2).toInt64 * (tg N t 2).toInt64 := by
    apply i64_eq
    rw [i32_ext, i32_mul (by omega), i64_mul (by rw [i32_ext]; omega), i32_ext]
  rw [e, Int64.mul_assoc]
theorem full_64 (h : wfN N) (ht : t < cnt N) : 100 * (tg N t 4).toInt64 = (fullS N t).toInt64 := by
  have h1 := full_int h ht
  have h2 := (h.2.2.2.2.2 t ht).2.2.2.2.2.1
  unfold bd at h2
  have e : (100 : Int64).toInt = 100 := rfl
  apply i64_eq
  rw [i32_ext, i64_mul (by rw [i32_ext, e]; omega), i32_ext, e, h1.1]
theorem il_step (g : Good (P 0) N S) {j : Nat} (hj : j < 2) (ht : t < cnt N) : l_L_isLevel_26 P G (nI j) (levS N S j) (volS N j (levS N S j) t) (volS N j (levS N S j + 1) t) (nI t) = some (.inl (volS N j (levS N S j) (t + 1), volS N j (levS N S j + 1) (t + 1), nI (t + 1))) := by
  have h := g.1
  have hc := cnt_le h
  have hl := lgOf_lt h ht
  unfold l_L_isLevel_26
  rw [s_2 g, ob_some, if_neg (by rw [nI_leI (by omega) (by omega)]; omega), t_0 g ht, ob_some]
  simp only [volS, tg0 h ht]
  by_cases q : nI (lgOf N t) = nI j
  · have q' : lgOf N t = j := (nI_eq (by omega) (by omega)).mp q
    rw [if_pos q, if_pos q, if_pos q, t_6 g ht, ob_some]
    by_cases hz : tg N t 6 = 0
    · have hcol := col_back g ht
      rw [q'] at hcol
      rw [if_pos hz, t_2 g ht, ob_some, ob_some, lt_eq, t_7 g ht, ob_some, lt_eq, t_4 g ht, ob_some, run_ok g ht, ob_some, lt_eq, sq_vol h ht, sq_vol h ht, hcol, full_64 h ht]
      unfold b_L_isLevel_132 cvol
      rw [lt_eq, nI_1]
      have e : colS N t (levS N S j + 1) = lmax 0 (lmin (fullS N t).toInt64 (runS N t (levS N S j + 1))) := by
        unfold colS
        rw [if_pos hz]
      rw [e]
    · have e : ∀ L, cvol N t L = 0 := fun L => by
        unfold cvol colS
        rw [if_neg hz, Int64.zero_mul, Int64.zero_mul]
      rw [if_neg hz, e, e, Int64.add_zero, Int64.add_zero]
      unfold b_L_isLevel_132
      rw [lt_eq, nI_1]
  · rw [if_neg q, if_neg q, if_neg q]
    unfold b_L_isLevel_132
    rw [lt_eq, nI_1]
theorem isLevel_ok (g : Good (P 0) N S) {j : Nat} (hj : j < 2) : f_L_isLevel P G (nI j) = some true := by
  have h := g.1
  have hc := cnt_le h
  have hb := lev_bd2 h g.2.1 hj
  have hl := lev_is h g.2.1 hj
  have hs := S_bd h g.2.1 hj
  have e1 : (1 : Int64).toInt = 1 := rfl
  have e0 : (0 : Int64).toInt = 0 := rfl
  have key := wl_count (f := fun t : Int64 × Int64 × Int32 => l_L_isLevel_26 P G (nI j) (levS N S j) t.1 t.2.1 t.2.2) (fun i => (volS N j (levS N S j) i, volS N j (levS N S j + 1) i, nI i)) (cnt N) (volS N j (levS N S j) (cnt N), volS N j (levS N S j + 1) (cnt N)) (fun i hi => il_step g hj hi) (by
    show l_L_isLevel_26 P G (nI j) (levS N S j) _ _ (nI (cnt N)) = _
    unfold l_L_isLevel_26
    rw [s_2 g, ob_some, if_pos (by rw [nI_leI (by omega) (by omega)]; omega)]) 200 (by omega)
  have key' : wloop (fun t : Int64 × Int64 × Int32 => l_L_isLevel_26 P G (nI j) (levS N S j) t.1 t.2.1 t.2.2) 200 (0, 0, 0) = _ := key
  have d1 : (levS N S j + 1).toInt = (levS N S j).toInt + 1 := by rw [i64_add (by omega), e1]
  have f1 := F_int h hj (L := levS N S j) (by omega)
  have f2 := F_int h hj (L := levS N S j + 1) (by omega)
  rw [d1] at f2
  have v1 := vol_int h hj (L := levS N S j) (by omega) (cnt N) (Nat.le_refl _)
  have v2 := vol_bd h j (levS N S j).toInt (cnt N) (Nat.le_refl _)
  have ha := area_bd h hj
  have m1 := mul_bd (a := (lg N j 1).toInt) (b := (levS N S j).toInt) (A := 99999) (B := 30000000) (by omega) (by omega)
  have d2 : ((lg N j 1).toInt64 * levS N S j).toInt = (lg N j 1).toInt * (levS N S j).toInt := by rw [i64_mul (by rw [i32_ext]; omega), i32_ext]
  have d3 : (S j - (lg N j 1).toInt64 * levS N S j).toInt = (S j).toInt - (lg N j 1).toInt * (levS N S j).toInt := by rw [i64_sub (by rw [d2]; omega), d2]
  have d4 : ((S j - (lg N j 1).toInt64 * levS N S j) - volS N j (levS N S j) (cnt N)).toInt = (S j).toInt - (lg N j 1).toInt * (levS N S j).toInt - volZ N j (levS N S j).toInt (cnt N) := by rw [i64_sub (by rw [d3, v1]; omega), d3, v1]
  have hl1 := hl.1
  have hl2 := hl.2
  unfold f_L_isLevel
  rw [l_3 g hj, ob_some, lt_eq, lev_back g hj, l_1 g hj, ob_some, lt_eq, key', ob_some]
  show b_L_isLevel_138 P G (nI j) (levS N S j) (lg N j 1).toInt64 (volS N j (levS N S j) (cnt N)) (volS N j (levS N S j + 1) (cnt N)) = _
  unfold b_L_isLevel_138
  rw [a_0 g hj, ob_some, a_1 g hj, ob_some, if_pos rfl, a_4 g hj, ob_some, if_pos rfl, ob_some, if_pos (by rw [i64_le, e0, d4]; omega), if_neg (by rw [i64_le, f2]; omega), a_3 g hj, ob_some, a_2 g hj, ob_some, if_pos (g.2.2.1 j hj)]
end SEE
