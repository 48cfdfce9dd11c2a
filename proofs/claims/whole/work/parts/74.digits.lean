/-! FORMAT 1: digits on both sides -/
theorem ng_int {n : Nat} (h : n < 1000000) : (-nI n).toInt = -(n : Int) := by
  rw [← Int32.zero_sub, i32_sub (by rw [nI_toInt (by omega), show (0 : Int32).toInt = 0 from rfl]; omega), nI_toInt (by omega), show (0 : Int32).toInt = 0 from rfl]
  omega
theorem ng_div {n : Nat} (h : n < 1000000) : (-nI n) / 100 = -nI (n / 100) := by
  apply i32_eq
  rw [i32_div (by rw [ng_int h]; omega), ng_int h, ng_int (by omega), show (100 : Int32).toInt = 100 from rfl, Int.neg_tdiv, Int.tdiv_eq_ediv_of_nonneg (by omega)]
  omega
theorem ng_r {n : Nat} (h : n < 1000000) : ((-nI (n / 100)) * 100) - (-nI n) = nI (n % 100) := by
  apply i32_eq
  have e : ((-nI (n / 100)) * 100).toInt = -((n / 100 : Nat) : Int) * 100 := by
    rw [i32_mul (by rw [ng_int (by omega), show (100 : Int32).toInt = 100 from rfl]; omega), ng_int (by omega), show (100 : Int32).toInt = 100 from rfl]
  rw [i32_sub (by rw [e, ng_int h]; omega), e, ng_int h, nI_toInt (by omega)]
  omega
theorem ng_neg (n : Nat) : -(-nI n) = nI n := Int32.neg_neg
theorem dig_ones : ∀ r, r < 100 → zDigitOnes.getD r 0 = nI (48 + r % 10) ∧ (nI (48 + r % 10)).toInt8.toInt32 = nI (48 + r % 10) := by decide +kernel
theorem dig_tens : ∀ r, r < 100 → zDigitTens.getD r 0 = nI (48 + r / 10) ∧ (nI (48 + r / 10)).toInt8.toInt32 = nI (48 + r / 10) := by decide +kernel
theorem pm_1 {p : Nat} (h : 1 ≤ p) : nI p + (-1) = nI (p - 1) := by
  obtain ⟨q, rfl⟩ : ∃ q, p = q + 1 := ⟨p - 1, by omega⟩
  rw [pk_m1]
  rfl
theorem gc_loop {a p : Nat} {G : GlbS} (ha : 100 ≤ a) (ha2 : a < 1000000) (hp : 2 ≤ p) (hp2 : p ≤ 16) : l_J6_getChars_ba4f3_22 (-nI a) (nI p) G = some (.inl (-nI (a / 100), nI (p - 2), sg (sg G 6 (p - 1) (nI (48 + a % 100 % 10))) 6 (p - 2) (nI (48 + a % 100 / 10)))) := by
  have o := dig_ones (a % 100) (by omega)
  have t := dig_tens (a % 100) (by omega)
  have hr : 0 ≤ (nI (a % 100)).toInt ∧ (nI (a % 100)).toInt < 100 := by rw [nI_toInt (by omega)]; omega
  unfold l_J6_getChars_ba4f3_22
  rw [if_neg (by rw [i32_lt, ng_int ha2, show (-100 : Int32).toInt = -100 from rfl]; omega), ng_div ha2]
  simp only [lt]
  rw [ng_r ha2, pm_1 (by omega), pm_1 (by omega), show p - 1 - 1 = p - 2 by omega, if_pos hr, if_pos (by rw [nI_toInt (by omega)]; omega), nI_clamp (by omega), o.1, if_pos o.2, if_pos hr, if_pos (by rw [nI_toInt (by omega)]; omega), t.1, if_pos t.2, nI_clamp (by omega), nI_clamp (by omega)]
theorem gc_exit {a p : Nat} {G : GlbS} (ha : a < 100) : l_J6_getChars_ba4f3_22 (-nI a) (nI p) G = some (.inr (-nI a, nI p, G)) := by
  unfold l_J6_getChars_ba4f3_22
  rw [if_pos (by rw [i32_lt, ng_int (by omega), show (-100 : Int32).toInt = -100 from rfl]; omega)]
theorem gc_fin1 {a p : Nat} {s : Int32} {G : GlbS} (ha : a < 10) (hp : 1 ≤ p) (hp2 : p ≤ 16) : b_J6_getChars_ba4f3_72 (-nI a) (nI p) s G = b_J6_getChars_ba4f3_104 (nI (p - 1)) s (sg G 6 (p - 1) (nI (48 + a % 10))) := by
  have o := dig_ones a (by omega)
  have hr : 0 ≤ (nI a).toInt ∧ (nI a).toInt < 100 := by rw [nI_toInt (by omega)]; omega
  unfold b_J6_getChars_ba4f3_72
  rw [ng_neg, pm_1 (by omega), lt_eq, if_pos hr, if_pos (by rw [nI_toInt (by omega)]; omega), nI_clamp (by omega), o.1, if_pos o.2, nI_clamp (by omega), lt_eq, if_pos (by rw [i32_le, ng_int (by omega), show (-9 : Int32).toInt = -9 from rfl]; omega)]
theorem gc_fin2 {a p : Nat} {s : Int32} {G : GlbS} (ha : 10 ≤ a) (ha2 : a < 100) (hp : 2 ≤ p) (hp2 : p ≤ 16) : b_J6_getChars_ba4f3_72 (-nI a) (nI p) s G = b_J6_getChars_ba4f3_104 (nI (p - 2)) s (sg (sg G 6 (p - 1) (nI (48 + a % 10))) 6 (p - 2) (nI (48 + a / 10))) := by
  have o := dig_ones a (by omega)
  have t := dig_tens a (by omega)
  have hr : 0 ≤ (nI a).toInt ∧ (nI a).toInt < 100 := by rw [nI_toInt (by omega)]; omega
  unfold b_J6_getChars_ba4f3_72
  rw [ng_neg, pm_1 (by omega), lt_eq, if_pos hr, if_pos (by rw [nI_toInt (by omega)]; omega), nI_clamp (by omega), o.1, if_pos o.2, nI_clamp (by omega), lt_eq, if_neg (by rw [i32_le, ng_int (by omega), show (-9 : Int32).toInt = -9 from rfl]; omega), pm_1 (by omega), show p - 1 - 1 = p - 2 by omega]
  simp only [lt]
  rw [if_pos hr, if_pos (by rw [nI_toInt (by omega)]; omega), t.1, if_pos t.2, nI_clamp (by omega)]
/-- the digits, by places -/
def dgs (n E k : Nat) : Int32 := nI (48 + n / 10 ^ (E - 1 - k) % 10)
def wrG (G : GlbS) (m E : Nat) (f : Nat → Int32) : GlbS := va_up G 6 (fun k => if m ≤ k ∧ k < E then f k else G 6 k)
theorem wr_0 {G : GlbS} {m : Nat} {f : Nat → Int32} : wrG G m m f = G := by
  unfold wrG
  have : (fun k => if m ≤ k ∧ k < m then f k else G 6 k) = G 6 := by funext k; rw [if_neg (by omega)]
  rw [this, up_self]
theorem wr_s {G : GlbS} {m E : Nat} {f : Nat → Int32} {v : Int32} (h : m < E) (hv : f m = v) : sg (wrG G (m + 1) E f) 6 m v = wrG G m E f := by
  unfold wrG sg
  rw [va_up_self, up_up]
  congr 1
  funext k
  unfold va_up
  by_cases q : k = m
  · subst q; rw [if_pos rfl, if_pos (by omega), hv]
  · rw [if_neg q]
    show (if m + 1 ≤ k ∧ k < E then f k else G 6 k) = _
    by_cases q2 : m + 1 ≤ k ∧ k < E
    · rw [if_pos q2, if_pos (by omega)]
    · rw [if_neg q2, if_neg (by omega)]
theorem dg_at {n E k x : Nat} (h : E = k + 1 + x) {v : Int32} (hv : nI (48 + n / 10 ^ x % 10) = v) : dgs n E k = v := by
  unfold dgs
  rw [show E - 1 - k = x by omega]
  exact hv
theorem gc_1 {n m : Nat} {s : Int32} {G : GlbS} (h1 : 0 ≤ n) (h2 : n < 10) (hm : m + 1 ≤ 16) : b_J6_getChars_ba4f3_22 200 (-nI n) (nI (m + 1)) s G = b_J6_getChars_ba4f3_104 (nI m) s (wrG G m (m + 1) (dgs n (m + 1))) := by
  unfold b_J6_getChars_ba4f3_22
  have e : wloop (fun t : Int32 × Int32 × GlbS => l_J6_getChars_ba4f3_22 t.1 t.2.1 t.2.2) 200 (-nI n, nI (m + 1), G) = some (-nI (n), nI (m + 1), G) := by
    exact wl_en (n := 199) (gc_exit (by omega))
  rw [e, ob_some]
  show b_J6_getChars_ba4f3_72 (-nI (n)) (nI (m + 1)) s (G) = _
  rw [gc_fin1 (by omega) (by omega) (by omega), show m + 1 - 1 = m by omega]
  congr 1
  have q0 : wrG G (m + 1) (m + 1) (dgs n (m + 1)) = G := wr_0
  have q1 := wr_s (G := G) (m := m + 0) (E := m + 1) (f := dgs n (m + 1)) (v := nI (48 + n % 10)) (by omega) (dg_at (x := 0) (by omega) (by congr 1 <;> omega))
  simp only [Nat.add_assoc, Nat.reduceAdd, Nat.add_zero] at q1 q0 ⊢
  rw [q0] at q1
  rw [q1]
theorem gc_2 {n m : Nat} {s : Int32} {G : GlbS} (h1 : 10 ≤ n) (h2 : n < 100) (hm : m + 2 ≤ 16) : b_J6_getChars_ba4f3_22 200 (-nI n) (nI (m + 2)) s G = b_J6_getChars_ba4f3_104 (nI m) s (wrG G m (m + 2) (dgs n (m + 2))) := by
  unfold b_J6_getChars_ba4f3_22
  have e : wloop (fun t : Int32 × Int32 × GlbS => l_J6_getChars_ba4f3_22 t.1 t.2.1 t.2.2) 200 (-nI n, nI (m + 2), G) = some (-nI (n), nI (m + 2), G) := by
    exact wl_en (n := 199) (gc_exit (by omega))
  rw [e, ob_some]
  show b_J6_getChars_ba4f3_72 (-nI (n)) (nI (m + 2)) s (G) = _
  rw [gc_fin2 (by omega) (by omega) (by omega) (by omega), show m + 2 - 2 = m by omega]
  congr 1
  rw [show m + 2 - 1 = m + 1 by omega]
  have q0 : wrG G (m + 2) (m + 2) (dgs n (m + 2)) = G := wr_0
  have q1 := wr_s (G := G) (m := m + 1) (E := m + 2) (f := dgs n (m + 2)) (v := nI (48 + n % 10)) (by omega) (dg_at (x := 0) (by omega) (by congr 1 <;> omega))
  have q2 := wr_s (G := G) (m := m + 0) (E := m + 2) (f := dgs n (m + 2)) (v := nI (48 + n / 10)) (by omega) (dg_at (x := 1) (by omega) (by congr 1 <;> omega))
  simp only [Nat.add_assoc, Nat.reduceAdd, Nat.add_zero] at q1 q2 q0 ⊢
  rw [q0] at q1
  rw [q1, q2]
theorem gc_3 {n m : Nat} {s : Int32} {G : GlbS} (h1 : 100 ≤ n) (h2 : n < 1000) (hm : m + 3 ≤ 16) : b_J6_getChars_ba4f3_22 200 (-nI n) (nI (m + 3)) s G = b_J6_getChars_ba4f3_104 (nI m) s (wrG G m (m + 3) (dgs n (m + 3))) := by
  unfold b_J6_getChars_ba4f3_22
  have e : wloop (fun t : Int32 × Int32 × GlbS => l_J6_getChars_ba4f3_22 t.1 t.2.1 t.2.2) 200 (-nI n, nI (m + 3), G) = some (-nI (n / 100), nI (m + 3 - 2), sg (sg (G) 6 (m + 3 - 1) (nI (48 + n % 100 % 10))) 6 (m + 3 - 2) (nI (48 + n % 100 / 10))) := by
    refine (wl_st (f := fun t : Int32 × Int32 × GlbS => l_J6_getChars_ba4f3_22 t.1 t.2.1 t.2.2) (n := 199) (s := (-nI (n), nI (m + 3), G)) (gc_loop (by omega) (by omega) (by omega) (by omega))).trans ?_
    exact wl_en (n := 198) (gc_exit (by omega))
  rw [e, ob_some]
  show b_J6_getChars_ba4f3_72 (-nI (n / 100)) (nI (m + 3 - 2)) s (sg (sg (G) 6 (m + 3 - 1) (nI (48 + n % 100 % 10))) 6 (m + 3 - 2) (nI (48 + n % 100 / 10))) = _
  rw [gc_fin1 (by omega) (by omega) (by omega), show m + 3 - 2 - 1 = m by omega]
  congr 1
  rw [show m + 3 - 1 = m + 2 by omega, show m + 3 - 2 = m + 1 by omega]
  have q0 : wrG G (m + 3) (m + 3) (dgs n (m + 3)) = G := wr_0
  have q1 := wr_s (G := G) (m := m + 2) (E := m + 3) (f := dgs n (m + 3)) (v := nI (48 + n % 100 % 10)) (by omega) (dg_at (x := 0) (by omega) (by congr 1 <;> omega))
  have q2 := wr_s (G := G) (m := m + 1) (E := m + 3) (f := dgs n (m + 3)) (v := nI (48 + n % 100 / 10)) (by omega) (dg_at (x := 1) (by omega) (by congr 1 <;> omega))
  have q3 := wr_s (G := G) (m := m + 0) (E := m + 3) (f := dgs n (m + 3)) (v := nI (48 + n / 100 % 10)) (by omega) (dg_at (x := 2) (by omega) (by congr 1 <;> omega))
  simp only [Nat.add_assoc, Nat.reduceAdd, Nat.add_zero] at q1 q2 q3 q0 ⊢
  rw [q0] at q1
  rw [q1, q2, q3]
theorem gc_4 {n m : Nat} {s : Int32} {G : GlbS} (h1 : 1000 ≤ n) (h2 : n < 10000) (hm : m + 4 ≤ 16) : b_J6_getChars_ba4f3_22 200 (-nI n) (nI (m + 4)) s G = b_J6_getChars_ba4f3_104 (nI m) s (wrG G m (m + 4) (dgs n (m + 4))) := by
  unfold b_J6_getChars_ba4f3_22
  have e : wloop (fun t : Int32 × Int32 × GlbS => l_J6_getChars_ba4f3_22 t.1 t.2.1 t.2.2) 200 (-nI n, nI (m + 4), G) = some (-nI (n / 100), nI (m + 4 - 2), sg (sg (G) 6 (m + 4 - 1) (nI (48 + n % 100 % 10))) 6 (m + 4 - 2) (nI (48 + n % 100 / 10))) := by
    refine (wl_st (f := fun t : Int32 × Int32 × GlbS => l_J6_getChars_ba4f3_22 t.1 t.2.1 t.2.2) (n := 199) (s := (-nI (n), nI (m + 4), G)) (gc_loop (by omega) (by omega) (by omega) (by omega))).trans ?_
    exact wl_en (n := 198) (gc_exit (by omega))
  rw [e, ob_some]
  show b_J6_getChars_ba4f3_72 (-nI (n / 100)) (nI (m + 4 - 2)) s (sg (sg (G) 6 (m + 4 - 1) (nI (48 + n % 100 % 10))) 6 (m + 4 - 2) (nI (48 + n % 100 / 10))) = _
  rw [gc_fin2 (by omega) (by omega) (by omega) (by omega), show m + 4 - 2 - 2 = m by omega]
  congr 1
  rw [show m + 4 - 1 = m + 3 by omega, show m + 4 - 2 = m + 2 by omega, show m + 2 - 1 = m + 1 by omega]
  have q0 : wrG G (m + 4) (m + 4) (dgs n (m + 4)) = G := wr_0
  have q1 := wr_s (G := G) (m := m + 3) (E := m + 4) (f := dgs n (m + 4)) (v := nI (48 + n % 100 % 10)) (by omega) (dg_at (x := 0) (by omega) (by congr 1 <;> omega))
  have q2 := wr_s (G := G) (m := m + 2) (E := m + 4) (f := dgs n (m + 4)) (v := nI (48 + n % 100 / 10)) (by omega) (dg_at (x := 1) (by omega) (by congr 1 <;> omega))
  have q3 := wr_s (G := G) (m := m + 1) (E := m + 4) (f := dgs n (m + 4)) (v := nI (48 + n / 100 % 10)) (by omega) (dg_at (x := 2) (by omega) (by congr 1 <;> omega))
  have q4 := wr_s (G := G) (m := m + 0) (E := m + 4) (f := dgs n (m + 4)) (v := nI (48 + n / 100 / 10)) (by omega) (dg_at (x := 3) (by omega) (by congr 1 <;> omega))
  simp only [Nat.add_assoc, Nat.reduceAdd, Nat.add_zero] at q1 q2 q3 q4 q0 ⊢
  rw [q0] at q1
  rw [q1, q2, q3, q4]
theorem gc_5 {n m : Nat} {s : Int32} {G : GlbS} (h1 : 10000 ≤ n) (h2 : n < 100000) (hm : m + 5 ≤ 16) : b_J6_getChars_ba4f3_22 200 (-nI n) (nI (m + 5)) s G = b_J6_getChars_ba4f3_104 (nI m) s (wrG G m (m + 5) (dgs n (m + 5))) := by
  unfold b_J6_getChars_ba4f3_22
  have e : wloop (fun t : Int32 × Int32 × GlbS => l_J6_getChars_ba4f3_22 t.1 t.2.1 t.2.2) 200 (-nI n, nI (m + 5), G) = some (-nI (n / 100 / 100), nI (m + 5 - 2 - 2), sg (sg (sg (sg (G) 6 (m + 5 - 1) (nI (48 + n % 100 % 10))) 6 (m + 5 - 2) (nI (48 + n % 100 / 10))) 6 (m + 5 - 2 - 1) (nI (48 + n / 100 % 100 % 10))) 6 (m + 5 - 2 - 2) (nI (48 + n / 100 % 100 / 10))) := by
    refine (wl_st (f := fun t : Int32 × Int32 × GlbS => l_J6_getChars_ba4f3_22 t.1 t.2.1 t.2.2) (n := 199) (s := (-nI (n), nI (m + 5), G)) (gc_loop (by omega) (by omega) (by omega) (by omega))).trans ?_
    refine (wl_st (f := fun t : Int32 × Int32 × GlbS => l_J6_getChars_ba4f3_22 t.1 t.2.1 t.2.2) (n := 198) (s := (-nI (n / 100), nI (m + 5 - 2), sg (sg (G) 6 (m + 5 - 1) (nI (48 + n % 100 % 10))) 6 (m + 5 - 2) (nI (48 + n % 100 / 10)))) (gc_loop (by omega) (by omega) (by omega) (by omega))).trans ?_
    exact wl_en (n := 197) (gc_exit (by omega))
  rw [e, ob_some]
  show b_J6_getChars_ba4f3_72 (-nI (n / 100 / 100)) (nI (m + 5 - 2 - 2)) s (sg (sg (sg (sg (G) 6 (m + 5 - 1) (nI (48 + n % 100 % 10))) 6 (m + 5 - 2) (nI (48 + n % 100 / 10))) 6 (m + 5 - 2 - 1) (nI (48 + n / 100 % 100 % 10))) 6 (m + 5 - 2 - 2) (nI (48 + n / 100 % 100 / 10))) = _
  rw [gc_fin1 (by omega) (by omega) (by omega), show m + 5 - 2 - 2 - 1 = m by omega]
  congr 1
  rw [show m + 5 - 1 = m + 4 by omega, show m + 5 - 2 = m + 3 by omega, show m + 3 - 1 = m + 2 by omega, show m + 3 - 2 = m + 1 by omega]
  have q0 : wrG G (m + 5) (m + 5) (dgs n (m + 5)) = G := wr_0
  have q1 := wr_s (G := G) (m := m + 4) (E := m + 5) (f := dgs n (m + 5)) (v := nI (48 + n % 100 % 10)) (by omega) (dg_at (x := 0) (by omega) (by congr 1 <;> omega))
  have q2 := wr_s (G := G) (m := m + 3) (E := m + 5) (f := dgs n (m + 5)) (v := nI (48 + n % 100 / 10)) (by omega) (dg_at (x := 1) (by omega) (by congr 1 <;> omega))
  have q3 := wr_s (G := G) (m := m + 2) (E := m + 5) (f := dgs n (m + 5)) (v := nI (48 + n / 100 % 100 % 10)) (by omega) (dg_at (x := 2) (by omega) (by congr 1 <;> omega))
  have q4 := wr_s (G := G) (m := m + 1) (E := m + 5) (f := dgs n (m + 5)) (v := nI (48 + n / 100 % 100 / 10)) (by omega) (dg_at (x := 3) (by omega) (by congr 1 <;> omega))
  have q5 := wr_s (G := G) (m := m + 0) (E := m + 5) (f := dgs n (m + 5)) (v := nI (48 + n / 100 / 100 % 10)) (by omega) (dg_at (x := 4) (by omega) (by congr 1 <;> omega))
  simp only [Nat.add_assoc, Nat.reduceAdd, Nat.add_zero] at q1 q2 q3 q4 q5 q0 ⊢
  rw [q0] at q1
  rw [q1, q2, q3, q4, q5]
