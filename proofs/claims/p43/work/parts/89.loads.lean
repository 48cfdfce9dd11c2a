/-! LOADS: the text of the law, clause by clause -/
def Bt (l : List Nat) (k : Nat) : Prop := l.length ≤ k ∧ ∀ b ∈ l, b < 128
theorem bt_app {a b : List Nat} {m n : Nat} (h : Bt a m) (k : Bt b n) : Bt (a ++ b) (m + n) := ⟨by rw [List.length_append]; have := h.1; have := k.1; omega, fun x hx => by
  rcases List.mem_append.mp hx with q | q
  · exact h.2 x q
  · exact k.2 x q⟩
theorem bt_59 : Bt [59] 1 := ⟨Nat.le_refl _, fun x hx => by rw [List.mem_singleton.mp hx]; decide⟩
theorem bt_zl {i : Nat} (hi : i < 21) {k : Nat} (hk : (zl i).length ≤ k) : Bt (zl i) k := ⟨hk, zl_lt i hi⟩
theorem bt_spd {v : Int32} (hv : bd v (-9999) 999999) : Bt (spd v.toInt) 7 := by
  unfold bd at hv
  have lt_ : ∀ n, ∀ b ∈ dig n, b < 128 := fun n b hb => by
    have := dgs_lt n _ b hb
    omega
  unfold spd
  by_cases q : v.toInt < 0
  · rw [if_pos q]
    have n4 : nd (-v.toInt).toNat ≤ 4 := by
      have : (-v.toInt).toNat < 10000 := by omega
      unfold nd
      split
      · omega
      · split
        · omega
        · split
          · omega
          · first | omega | (rw [if_pos this]; omega)
    have e : (dig (-v.toInt).toNat).length = nd (-v.toInt).toNat := dgs_len _ _
    refine ⟨by rw [List.length_append, e]; show 2 + _ ≤ 7; omega, fun b hb => ?_⟩
    rcases List.mem_append.mp hb with h | h
    · have : b = 32 ∨ b = 45 := by simpa using h
      omega
    · exact lt_ _ b h
  · rw [if_neg q]
    have n6 := nd_bd v.toInt.toNat
    have e : (dig v.toInt.toNat).length = nd v.toInt.toNat := dgs_len _ _
    refine ⟨by rw [List.length_append, e]; show 1 + _ ≤ 7; omega, fun b hb => ?_⟩
    rcases List.mem_append.mp hb with h | h
    · rw [List.mem_singleton.mp h]; decide
    · exact lt_ _ b h
theorem bd_wd {v : Int32} {a b c d : Int} (h : bd v a b) (h1 : c ≤ a) (h2 : b ≤ d) : bd v c d := by
  unfold bd at h ⊢
  omega
theorem vc_app {pts : Nat} {ys : List (List Nat)} {k : Nat} (hk : Vc pts ys k) : ∀ (xs : List (List Nat)) (n : Nat), Vc pts xs n → Vc pts (xs ++ ys) (n + k) := by
  intro xs
  induction xs with
  | nil =>
    intro n h
    have h : n = 0 := h
    subst h
    rw [Nat.zero_add]
    exact hk
  | cons x xs ih =>
    intro n h
    rcases h with ⟨j, d, a, c, h1, h2, h3, h4, h5, h6⟩ | ⟨p, v, h1, h2, h3, h4⟩ | ⟨j, p, b, s, e, r, n', h1, h2, h3, h4, h5, h6, h7, h8, h9⟩
    · exact Or.inl ⟨j, d, a, c, h1, h2, h3, h4, h5, ih n h6⟩
    · exact Or.inr (Or.inl ⟨p, v, h1, h2, h3, ih n h4⟩)
    · exact Or.inr (Or.inr ⟨j, p, b, s, e, r, n' + k, h1, h2, h3, h4, h5, h6, h7, ih n' h8, by omega⟩)
/-- the text so far -/
def Sx (pts : Nat) (hd : List Nat) (G0 : GlbS) (k L n : Nat) (G : GlbS) : Prop := ∃ xs, Vc pts xs n ∧ Tx G (hd ++ xs.flatten) ∧ FrT G0 G ∧ xs.length = k ∧ Bt (hd ++ xs.flatten) L
theorem sx_add {pts : Nat} {hd : List Nat} {G0 G G' : GlbS} {k L n m w : Nat} {xs : List (List Nat)} {x : List Nat} (V : Vc pts xs n) (F : FrT G0 G) (hk : xs.length = k) (B : Bt (hd ++ xs.flatten) L) (V' : Vc pts [x] m) (T' : Tx G' ((hd ++ xs.flatten) ++ x)) (F' : FrT G G') (B' : Bt x w) : Sx pts hd G0 (k + 1) (L + w) (n + m) G' := by
  have e : hd ++ (xs ++ [x]).flatten = (hd ++ xs.flatten) ++ x := by
    rw [List.flatten_append, List.flatten_cons, List.flatten_nil, List.append_nil, List.append_assoc]
  exact ⟨xs ++ [x], vc_app V' xs n V, by rw [e]; exact T', frt_t F F', by simp [hk], by rw [e]; exact bt_app B B'⟩
theorem int_q {x m : Int32} (hx : 0 ≤ x.toInt) (hm : 0 < m.toInt) : 0 ≤ (x / m).toInt := by
  rw [quo_int hx]
  exact Int.ediv_nonneg hx (by omega)
section WRITE
variable {z : ZG} {P : RowsS} {G : GlbS} {l : List Nat}
theorem w_leg (hz : z.2.2.2.1 ≤ 260) {x1 : Int32} {j : Nat} (hj : j < 2) (T : Tx G l) (hl : l.length ≤ 600) {pts : Nat} : ∃ x G', l_L_loads_40 z P x1 (nI j) G = some (.inl (nI (j + 1), G')) ∧ Tx G' (l ++ x) ∧ FrT G G' ∧ Vc pts [x] 0 ∧ Bt x 32 := by
  obtain ⟨v, v1, v2, -⟩ := cell_ok z hz (k := 1 + j) (by omega)
  have v3 := int_q (m := 3000) v2 (by decide)
  have v4 := int_q (m := 1000) v2 (by decide)
  have bj : bd (nI j) 0 1 := by unfold bd; rw [nI_toInt (by omega)]; omega
  have bd_ := sum_bd (a := 100) (b := 20000) (rem_bd 3000 v2 rfl (by decide)) (k := 500) rfl (by decide)
  have ba := sum_bd (a := 100) (b := 99999) (rem_bd 30000 v3 rfl (by decide)) (k := 1000) rfl (by decide)
  have key : ∀ c, bd c (-9999) 9999 → ∃ G', (ob (f_L_writes P G 4) fun x71 => lt (x71) fun Gv72 => ob (f_L_spaced P Gv72 (nI j)) fun x73 => lt (x73) fun Gv74 => ob (f_L_spaced P Gv74 (500 + (v - v / 3000 * 3000))) fun x75 => lt (x75) fun Gv76 => ob (f_L_spaced P Gv76 (1000 + ((v / 3000) - (v / 3000) / 30000 * 30000))) fun x77 => lt (x77) fun Gv78 => b_L_loads_127 P (nI j) c Gv78) = some (.inl (nI (j + 1), G')) ∧ Tx G' (l ++ (zl 4 ++ (spd (nI j).toInt ++ (spd (500 + (v - v / 3000 * 3000)).toInt ++ (spd (1000 + ((v / 3000) - (v / 3000) / 30000 * 30000)).toInt ++ (spd c.toInt ++ [59])))))) ∧ FrT G G' ∧ Bt (zl 4 ++ (spd (nI j).toInt ++ (spd (500 + (v - v / 3000 * 3000)).toInt ++ (spd (1000 + ((v / 3000) - (v / 3000) / 30000 * 30000)).toInt ++ (spd c.toInt ++ [59]))))) 32 := by
    intro c bc
    have t4 := bt_zl (i := 4) (by decide) (Nat.le_of_eq z_num.1)
    have s1 := bt_spd (bd_wd bj (c := -9999) (d := 999999) (by decide) (by decide))
    have s2 := bt_spd (bd_wd bd_ (c := -9999) (d := 999999) (by decide) (by decide))
    have s3 := bt_spd (bd_wd ba (c := -9999) (d := 999999) (by decide) (by decide))
    have s4 := bt_spd (bd_wd bc (c := -9999) (d := 999999) (by decide) (by decide))
    have r1 := t4.1
    have r2 := s1.1
    have r3 := s2.1
    have r4 := s3.1
    have r5 := s4.1
    obtain ⟨G1, a1, a2, a3⟩ := writes_ok (P := P) (i := 4) (by decide) T (by omega)
    obtain ⟨G2, b1, b2, b3⟩ := spaced_ok (P := P) (bd_wd bj (c := -9999) (d := 999999) (by decide) (by decide)) a2 (by rw [List.length_append]; omega)
    obtain ⟨G3, c1, c2, c3⟩ := spaced_ok (P := P) (bd_wd bd_ (c := -9999) (d := 999999) (by decide) (by decide)) b2 (by simp only [List.length_append]; omega)
    obtain ⟨G4, d1, d2, d3⟩ := spaced_ok (P := P) (bd_wd ba (c := -9999) (d := 999999) (by decide) (by decide)) c2 (by simp only [List.length_append]; omega)
    obtain ⟨G5, e1, e2, e3⟩ := spaced_ok (P := P) (bd_wd bc (c := -9999) (d := 999999) (by decide) (by decide)) d2 (by simp only [List.length_append]; omega)
    obtain ⟨G6, f1, f2, f3⟩ := writes_ok (P := P) (i := 3) (by decide) e2 (by rw [z_leg.2.2.2.2.2]; simp only [List.length_append, List.length_singleton]; omega)
    refine ⟨G6, ?_, ?_, frt_t a3 (frt_t b3 (frt_t c3 (frt_t d3 (frt_t e3 f3)))), bt_app t4 (bt_app s1 (bt_app s2 (bt_app s3 (bt_app s4 bt_59))))⟩
    · unfold b_L_loads_127
      rw [a1, ob_some, lt_eq, b1, ob_some, lt_eq, c1, ob_some, lt_eq, d1, ob_some, lt_eq, e1, ob_some, lt_eq, f1, ob_some, lt_eq, nI_1, lt_eq]
    · rw [z_leg.2.2.2.2.2] at f2
      simp only [List.append_assoc] at f2
      exact f2
  have fin : ∀ c, bd c (-9999) 9999 → l_L_loads_40 z P x1 (nI j) G = (ob (f_L_writes P G 4) fun x71 => lt (x71) fun Gv72 => ob (f_L_spaced P Gv72 (nI j)) fun x73 => lt (x73) fun Gv74 => ob (f_L_spaced P Gv74 (500 + (v - v / 3000 * 3000))) fun x75 => lt (x75) fun Gv76 => ob (f_L_spaced P Gv76 (1000 + ((v / 3000) - (v / 3000) / 30000 * 30000))) fun x77 => lt (x77) fun Gv78 => b_L_loads_127 P (nI j) c Gv78) → ∃ x G', l_L_loads_40 z P x1 (nI j) G = some (.inl (nI (j + 1), G')) ∧ Tx G' (l ++ x) ∧ FrT G G' ∧ Vc pts [x] 0 ∧ Bt x 32 := by
    intro c bc e
    obtain ⟨G', k1, k2, k3, k4⟩ := key c bc
    exact ⟨_, G', e.trans k1, k2, k3, Or.inl ⟨j, _, _, c, hj, bd_, ba, bc, rfl, rfl⟩, k4⟩
  have st : ¬ (2 : Int32) ≤ nI j := by rw [show (2 : Int32) = nI 2 from rfl, nI_leI (by omega) (by omega)]; omega
  have ec : f_L_cell z (1 + nI j) = some v := by rw [show (1 : Int32) = nI 1 from rfl, nI_add]; exact v1
  by_cases q : ((x1 / 4) - (x1 / 4) / 3 * 3) = 0
  · refine fin (((v / 1000) - (v / 1000) / 2001 * 2001) - 1000) ?_ ?_
    · have hr := rem_bd (x := v / 1000) (M := 2001) 2001 v4 rfl (by decide)
      have ev : (1000 : Int32).toInt = 1000 := rfl
      unfold bd
      rw [i32_sub (by rw [ev]; omega), ev]
      omega
    · unfold l_L_loads_40
      rw [if_neg st, ec, ob_some]
      simp only [if_pos q]
  · refine fin 0 (by unfold bd; decide) ?_
    unfold l_L_loads_40
    rw [if_neg st, ec, ob_some]
    simp only [if_neg q]
theorem w_press (hz : z.2.2.2.1 ≤ 260) {pts p : Nat} (hpt : pts ≤ 8) (hp : p < pts) (T : Tx G l) (hl : l.length ≤ 600) : ∃ x G', l_L_loads_145 z (nI pts) P (nI p) G = some (.inl (nI (p + 1), G')) ∧ Tx G' (l ++ x) ∧ FrT G G' ∧ Vc pts [x] 0 ∧ Bt x 23 := by
  obtain ⟨v, v1, v2, -⟩ := cell_ok z hz (k := 3) (by decide)
  have e1 : (1 : Int32) + nI p = nI (1 + p) := by rw [show (1 : Int32) = nI 1 from rfl, nI_add]
  have v3 := int_q (m := nI (1 + p)) v2 (by rw [nI_toInt (by omega)]; omega)
  have bp : bd (nI p) 0 7 := by unfold bd; rw [nI_toInt (by omega)]; omega
  have bv : bd ((50000 - ((v / nI (1 + p)) - (v / nI (1 + p)) / 2000 * 2000)) + 200) 0 99999 := by
    have hr := rem_bd (x := v / nI (1 + p)) (M := 2000) 2000 v3 rfl (by decide)
    have ev : (50000 : Int32).toInt = 50000 := rfl
    have ew : (200 : Int32).toInt = 200 := rfl
    have es : (50000 - ((v / nI (1 + p)) - (v / nI (1 + p)) / 2000 * 2000)).toInt = 50000 - ((v / nI (1 + p)) - (v / nI (1 + p)) / 2000 * 2000).toInt := by
      rw [i32_sub (by rw [ev]; omega), ev]
    unfold bd
    rw [i32_add (by rw [es, ew]; omega), es, ew]
    omega
  have t5 := bt_zl (i := 5) (by decide) (Nat.le_of_eq z_num.2.1)
  have s1 := bt_spd (bd_wd bp (c := -9999) (d := 999999) (by decide) (by decide))
  have s2 := bt_spd (bd_wd bv (c := -9999) (d := 999999) (by decide) (by decide))
  have r1 := t5.1
  have r2 := s1.1
  have r3 := s2.1
  obtain ⟨G1, a1, a2, a3⟩ := writes_ok (P := P) (i := 5) (by decide) T (by omega)
  obtain ⟨G2, b1, b2, b3⟩ := spaced_ok (P := P) (bd_wd bp (c := -9999) (d := 999999) (by decide) (by decide)) a2 (by rw [List.length_append]; omega)
  obtain ⟨G3, c1, c2, c3⟩ := spaced_ok (P := P) (bd_wd bv (c := -9999) (d := 999999) (by decide) (by decide)) b2 (by simp only [List.length_append]; omega)
  obtain ⟨G4, d1, d2, d3⟩ := writes_ok (P := P) (i := 3) (by decide) c2 (by rw [z_leg.2.2.2.2.2]; simp only [List.length_append, List.length_singleton]; omega)
  rw [z_leg.2.2.2.2.2] at d2
  simp only [List.append_assoc] at d2
  refine ⟨_, G4, ?_, d2, frt_t a3 (frt_t b3 (frt_t c3 d3)), Or.inr (Or.inl ⟨p, _, hp, bv, rfl, rfl⟩), bt_app t5 (bt_app s1 (bt_app s2 bt_59))⟩
  unfold l_L_loads_145
  rw [if_neg (by rw [nI_leI (by omega) (by omega)]; omega), a1, ob_some, lt_eq, b1, ob_some, lt_eq, show f_L_cell z 3 = some v from v1, ob_some, e1, if_pos (nI_ne0 (by omega) (by omega)), c1, ob_some, lt_eq, d1, ob_some, lt_eq, nI_1, lt_eq]
theorem w_tube (hz : z.2.2.2.1 ≤ 260) {pts t n : Nat} (h0 : 0 < pts) (hpt : pts ≤ 8) (ht : t < n) (hn : n ≤ 12) (T : Tx G l) (hl : l.length ≤ 600) : ∃ x G', l_L_loads_213 z (nI pts) P (nI n) (nI t) G = some (.inl (nI (t + 1), G')) ∧ Tx G' (l ++ x) ∧ FrT G G' ∧ Vc pts [x] 1 ∧ Bt x 52 := by
  obtain ⟨v, v1, v2, -⟩ := cell_ok z hz (k := 4 + t) (by omega)
  have u2 := int_q (m := 2) v2 (by decide)
  have u16 := int_q (m := 16) v2 (by decide)
  have u160 := int_q (m := 160) v2 (by decide)
  have u20 := int_q (m := 200000) v2 (by decide)
  have u7 := int_q (m := 7) v2 (by decide)
  obtain ⟨j, j1, j2⟩ := rem_nI (c := 2) v2 (by decide) (by decide)
  have j2 : v - v / 2 * 2 = nI j := j2
  obtain ⟨p, p1, p2⟩ := rem_nI (c := pts) u2 h0 (by omega)
  have bj : bd (nI j) 0 1 := by unfold bd; rw [nI_toInt (by omega)]; omega
  have bp : bd (nI p) 0 7 := by unfold bd; rw [nI_toInt (by omega)]; omega
  have bb := sum_bd (a := 1) (b := 20) (rem_bd 10 u16 rfl (by decide)) (k := 1) rfl (by decide)
  have bs := sum_bd (a := 50) (b := 1000) (rem_bd 951 u160 rfl (by decide)) (k := 50) rfl (by decide)
  have be := sum_bd (a := 10) (b := 2000) (rem_bd 1900 u20 rfl (by decide)) (k := 100) rfl (by decide)
  have bm : bd (((v / 7) - (v / 7) / 401 * 401) - 200) (-9999) 9999 := by
    have hr := rem_bd (x := v / 7) (M := 401) 401 u7 rfl (by decide)
    have ev : (200 : Int32).toInt = 200 := rfl
    unfold bd
    rw [i32_sub (by rw [ev]; omega), ev]
    omega
  have t6 := bt_zl (i := 6) (by decide) (Nat.le_of_eq z_num.2.2.1)
  have t7 := bt_zl (i := 7) (by decide) (Nat.le_of_eq z_num.2.2.2.2.2.2.2)
  have s1 := bt_spd (bd_wd bj (c := -9999) (d := 999999) (by decide) (by decide))
  have s2 := bt_spd (bd_wd bp (c := -9999) (d := 999999) (by decide) (by decide))
  have s3 := bt_spd (bd_wd bb (c := -9999) (d := 999999) (by decide) (by decide))
  have s4 := bt_spd (bd_wd bs (c := -9999) (d := 999999) (by decide) (by decide))
  have s5 := bt_spd (bd_wd be (c := -9999) (d := 999999) (by decide) (by decide))
  have s6 := bt_spd (bd_wd bm (c := -9999) (d := 999999) (by decide) (by decide))
  have r0 := t6.1
  have r1 := s1.1
  have r2 := s2.1
  have r3 := s3.1
  have r4 := s4.1
  have r5 := s5.1
  have r6 := s6.1
  have r7 := t7.1
  obtain ⟨G1, a1, a2, a3⟩ := writes_ok (P := P) (i := 6) (by decide) T (by omega)
  obtain ⟨G2, b1, b2, b3⟩ := spaced_ok (P := P) (bd_wd bj (c := -9999) (d := 999999) (by decide) (by decide)) a2 (by simp only [List.length_append]; omega)
  obtain ⟨G3, c1, c2, c3⟩ := spaced_ok (P := P) (bd_wd bp (c := -9999) (d := 999999) (by decide) (by decide)) b2 (by simp only [List.length_append]; omega)
  obtain ⟨G4, d1, d2, d3⟩ := spaced_ok (P := P) (bd_wd bb (c := -9999) (d := 999999) (by decide) (by decide)) c2 (by simp only [List.length_append]; omega)
  obtain ⟨G5, e1, e2, e3⟩ := spaced_ok (P := P) (bd_wd bs (c := -9999) (d := 999999) (by decide) (by decide)) d2 (by simp only [List.length_append]; omega)
  obtain ⟨G6, f1, f2, f3⟩ := spaced_ok (P := P) (bd_wd be (c := -9999) (d := 999999) (by decide) (by decide)) e2 (by simp only [List.length_append]; omega)
  have F := frt_t a3 (frt_t b3 (frt_t c3 (frt_t d3 (frt_t e3 f3))))
  have ec : f_L_cell z (4 + nI t) = some v := by rw [show (4 : Int32) = nI 4 from rfl, nI_add]; exact v1
  have st : ¬ nI n ≤ nI t := by rw [nI_leI (by omega) (by omega)]; omega
  have hp0 : ¬ nI pts = 0 := nI_ne0 (by omega) (by omega)
  by_cases q : (v - v / 3 * 3) = 0
  · obtain ⟨G7, g1, g2, g3⟩ := writes_ok (P := P) (i := 7) (by decide) f2 (by simp only [List.length_append]; omega)
    obtain ⟨G8, h1, h2, h3⟩ := spaced_ok (P := P) (bd_wd bm (c := -9999) (d := 999999) (by decide) (by decide)) g2 (by simp only [List.length_append]; omega)
    obtain ⟨G9, i1, i2, i3⟩ := writes_ok (P := P) (i := 3) (by decide) h2 (by rw [z_leg.2.2.2.2.2]; simp only [List.length_append, List.length_singleton]; omega)
    rw [z_leg.2.2.2.2.2] at i2
    simp only [List.append_assoc] at i2
    refine ⟨_, G9, ?_, i2, frt_t F (frt_t g3 (frt_t h3 i3)), Or.inr (Or.inr ⟨j, p, _, _, _, _, 0, j1, p1, bb, bs, be, Or.inr ⟨_, bm, rfl⟩, rfl, rfl, rfl⟩), ?_⟩
    · unfold l_L_loads_213 b_L_loads_332
      rw [if_neg st, ec, ob_some, a1, ob_some, lt_eq, j2, b1, ob_some, lt_eq, if_pos hp0, p2, c1, ob_some, lt_eq, d1, ob_some, lt_eq, e1, ob_some, lt_eq, f1, ob_some, lt_eq, if_pos q, g1, ob_some, lt_eq, h1, ob_some, lt_eq, i1, ob_some, lt_eq, nI_1, lt_eq]
    · exact bt_app t6 (bt_app s1 (bt_app s2 (bt_app s3 (bt_app s4 (bt_app s5 (bt_app t7 (bt_app s6 bt_59)))))))
  · obtain ⟨G9, i1, i2, i3⟩ := writes_ok (P := P) (i := 3) (by decide) f2 (by rw [z_leg.2.2.2.2.2]; simp only [List.length_append, List.length_singleton]; omega)
    rw [z_leg.2.2.2.2.2] at i2
    simp only [List.append_assoc] at i2
    refine ⟨_, G9, ?_, i2, frt_t F i3, Or.inr (Or.inr ⟨j, p, _, _, _, _, 0, j1, p1, bb, bs, be, Or.inl rfl, rfl, rfl, rfl⟩), ?_⟩
    · unfold l_L_loads_213 b_L_loads_332
      rw [if_neg st, ec, ob_some, a1, ob_some, lt_eq, j2, b1, ob_some, lt_eq, if_pos hp0, p2, c1, ob_some, lt_eq, d1, ob_some, lt_eq, e1, ob_some, lt_eq, f1, ob_some, lt_eq, if_neg q, i1, ob_some, lt_eq, nI_1, lt_eq]
    · have B := bt_app t6 (bt_app s1 (bt_app s2 (bt_app s3 (bt_app s4 (bt_app s5 bt_59)))))
      exact ⟨Nat.le_trans B.1 (by decide), B.2⟩
end WRITE
