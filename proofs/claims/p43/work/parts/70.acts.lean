/-! ACTS: what the law does with a number of its script; its main loop -/
theorem and30 (x : Int32) : 0 ≤ (x &&& 1073741823).toInt ∧ (x &&& 1073741823).toInt < 1073741824 := by
  have h : (x &&& 1073741823).toBitVec.toNat ≤ 1073741823 := by
    rw [Int32.toBitVec_and, BitVec.toNat_and]
    exact Nat.and_le_right
  have e : (x &&& 1073741823).toInt = (x &&& 1073741823).toBitVec.toInt := rfl
  rw [e, BitVec.toInt_eq_toNat_of_lt (by omega)]
  omega
theorem cell_ok (z : ZG) (hz : z.2.2.2.1 ≤ 260) {k : Nat} (hk : k < 1000) : ∃ v, f_L_cell z (nI k) = some v ∧ 0 ≤ v.toInt ∧ v.toInt < 1073741824 := by
  unfold f_L_cell
  by_cases q : z.2.2.2.1 ≤ k
  · rw [if_pos (by rw [nI_leI (by omega) (by omega)]; exact q)]
    exact ⟨0, rfl, by decide, by decide⟩
  · rw [if_neg (by rw [nI_leI (by omega) (by omega)]; exact q), if_pos (by rw [nI_toInt (by omega)]; omega)]
    exact ⟨_, rfl, and30 _⟩
-- quotients and remainders of numbers that aren't negative
theorem quo_int {x m : Int32} (hx : 0 ≤ x.toInt) : (x / m).toInt = x.toInt / m.toInt := by
  have := i32_bd x
  rw [i32_div (by omega), Int.tdiv_eq_ediv_of_nonneg hx]
theorem rem_int {x m : Int32} (hx : 0 ≤ x.toInt) (hm : 0 < m.toInt) : (x - x / m * m).toInt = x.toInt % m.toInt := by
  have h0 := i32_bd x
  have h1 := quo_int (m := m) hx
  have h2 : x.toInt / m.toInt * m.toInt ≤ x.toInt := Int.ediv_mul_le _ (by omega)
  have h3 : 0 ≤ x.toInt / m.toInt * m.toInt := Int.mul_nonneg (Int.ediv_nonneg hx (by omega)) (by omega)
  have h4 : (x / m * m).toInt = x.toInt / m.toInt * m.toInt := by rw [i32_mul (by rw [h1]; omega), h1]
  have h5 : x.toInt % m.toInt = x.toInt - x.toInt / m.toInt * m.toInt := by rw [Int.emod_def, Int.mul_comm]
  rw [i32_sub (by rw [h4]; omega), h4, h5]
theorem quo_nn {x m : Int32} (hx : 0 ≤ x.toInt) (hm : 0 < m.toInt) : 0 ≤ (x / m).toInt := by
  rw [quo_int hx]
  exact Int.ediv_nonneg hx (by omega)
theorem rem_bd {x : Int32} (m : Int32) {M : Int} (hx : 0 ≤ x.toInt) (hm : m.toInt = M) (h0 : 0 < M) : 0 ≤ (x - x / m * m).toInt ∧ (x - x / m * m).toInt < M := by
  rw [rem_int hx (by omega), hm]
  exact ⟨Int.emod_nonneg _ (by omega), Int.emod_lt_of_pos _ h0⟩
theorem rem_nI {x : Int32} {c : Nat} (hx : 0 ≤ x.toInt) (h0 : 0 < c) (hc : c ≤ 100) : ∃ t : Nat, t < c ∧ x - x / nI c * nI c = nI t := by
  have h := rem_bd (nI c) (M := (c : Int)) hx (nI_toInt (by omega)) (by omega)
  exact ⟨(x - x / nI c * nI c).toInt.toNat, by omega, gI_of (by omega)⟩
theorem sum_bd {k r : Int32} {K M a b : Int} (hr : 0 ≤ r.toInt ∧ r.toInt < M) (hk : k.toInt = K) (h : -1000000000 ≤ K ∧ a ≤ K ∧ K + M ≤ b + 1 ∧ K + M ≤ 2000000000) : bd (k + r) a b := by
  unfold bd
  rw [i32_add (by omega), hk]
  omega
theorem n0c {N : Nat → Int32} (h : wfN N) : ∃ c : Nat, 2 ≤ c ∧ c ≤ 8 ∧ N 0 = nI c ∧ (N 0).toInt = (c : Int) := by
  have h0 := h.1
  unfold bd at h0
  exact ⟨(N 0).toInt.toNat, by omega, by omega, gI_of (by omega), by omega⟩
set_option maxHeartbeats 1000000 in
theorem acts_ok {P : RowsS} {G : GlbS} {N : Nat → Int32} {S : Nat → Int64} (g : Good (P 0) N S) (hI : IH G) {c : Int32} (hc : 0 ≤ c.toInt) : ∃ y P' G', f_L_acts P G c = some (y, P', G') ∧ Jn P' G' := by
  have h := g.1
  have hcn := cnt_le h
  obtain ⟨np, p2, p8, ep, ep2⟩ := n0c h
  have hx : 0 ≤ (c / 12).toInt := quo_nn hc (by decide)
  unfold f_L_acts
  rw [lt_eq, s_2 g, ob_some]
  generalize c - c / 12 * 12 = r
  generalize c / 12 = x at hx ⊢
  have hp : ∀ {y : Int32}, 0 ≤ y.toInt → ∃ t : Nat, (t : Int) < (N 0).toInt ∧ y - y / N 0 * N 0 = nI t := fun hy => by
    rw [ep]
    obtain ⟨t, t1, t2⟩ := rem_nI (c := np) hy (by omega) (by omega)
    exact ⟨t, by rw [nI_toInt (by omega)]; omega, t2⟩
  have hne : ¬ N 0 = 0 := i32_ne (by omega)
  have hl : ∃ j : Nat, j < 2 ∧ x - x / 2 * 2 = nI j := rem_nI (c := 2) hx (by omega) (by omega)
  have x8 : 0 ≤ (x / 8).toInt := quo_nn hx (by decide)
  have x16 : 0 ≤ (x / 16).toInt := quo_nn hx (by decide)
  have x2 : 0 ≤ (x / 2).toInt := quo_nn hx (by decide)
  have x160 : 0 ≤ (x / 160).toInt := quo_nn hx (by decide)
  have x300 : 0 ≤ (x / 300).toInt := quo_nn hx (by decide)
  obtain ⟨j, j2, ej⟩ := hl
  have setp : ∃ y P' G', f_X7_setPressure 200 P G (x - x / N 0 * N 0) (48000 + ((x / 8) - (x / 8) / 2500 * 2500)) = some (y, P', G') ∧ Jn P' G' := by
    obtain ⟨t, t1, t2⟩ := hp hx
    rw [t2]
    exact o_setPressure g hI t1 (sum_bd (rem_bd 2500 x8 rfl (by decide)) (k := 48000) rfl (by decide))
  have refl_ : ∃ y P' G', f_X7_refill 200 P G (x - x / 2 * 2) (1 + ((x / 2) - (x / 2) / 40000000 * 40000000)) = some (y, P', G') ∧ Jn P' G' := by
    rw [ej]
    exact o_refill g hI j2 (sum_bd (rem_bd 40000000 x2 rfl (by decide)) (k := 1) rfl (by decide))
  by_cases c0 : r = 0
  · obtain ⟨y, P', G', e, q⟩ := setp
    exact ⟨y, P', G', by rw [if_pos c0, s_0 g, ob_some, if_pos hne, e]; rfl, q⟩
  by_cases c1 : r = 1
  · obtain ⟨y, P', G', e, q⟩ := setp
    exact ⟨y, P', G', by rw [if_neg c0, if_pos c1, s_0 g, ob_some, if_pos hne, e]; rfl, q⟩
  by_cases c2 : r = 2
  · obtain ⟨y, P', G', e, q⟩ := o_setReference g hI (v := 49000 + (x - x / 2000 * 2000)) (sum_bd (rem_bd 2000 hx rfl (by decide)) (k := 49000) rfl (by decide))
    exact ⟨y, P', G', by rw [if_neg c0, if_neg c1, if_pos c2, e]; rfl, q⟩
  by_cases c3 : r = 3
  · obtain ⟨t, t1, t2⟩ := hp hx
    have hs : bd (1 + (x - x / 9 * 9)) 1 50 := sum_bd (rem_bd 9 hx rfl (by decide)) (k := 1) rfl (by decide)
    have hs' := hs
    unfold bd at hs'
    have es : 1 + (x - x / 9 * 9) = nI (1 + (x - x / 9 * 9)).toInt.toNat := gI_of (by omega)
    obtain ⟨y, P', G', e, q⟩ := o_sweep g hI t1 (v := 48500 + ((x / 8) - (x / 8) / 2000 * 2000)) (sum_bd (rem_bd 2000 x8 rfl (by decide)) (k := 48500) rfl (by decide)) (c := (1 + (x - x / 9 * 9)).toInt.toNat) (by omega)
    rw [← es, ← t2] at e
    exact ⟨y, P', G', by rw [if_neg c0, if_neg c1, if_neg c2, if_pos c3, s_0 g, ob_some, if_pos hne, e]; rfl, q⟩
  by_cases c4 : r = 4
  · by_cases z : cnt N = 0
    · exact ⟨-9, P, G, by rw [if_neg c0, if_neg c1, if_neg c2, if_neg c3, if_pos c4, if_pos (by rw [z]; rfl)], ⟨N, S, g⟩, hI⟩
    · obtain ⟨t, t1, t2⟩ := rem_nI (c := cnt N) hx (by omega) (by omega)
      obtain ⟨y, P', G', e, q⟩ := o_setSlant g hI t1 (v := 50 + ((x / 16) - (x / 16) / 951 * 951)) (sum_bd (rem_bd 951 x16 rfl (by decide)) (k := 50) rfl (by decide))
      rw [← t2] at e
      exact ⟨y, P', G', by rw [if_neg c0, if_neg c1, if_neg c2, if_neg c3, if_pos c4, if_neg (nI_ne0 (by omega) (by omega)), e]; rfl, q⟩
  by_cases c5 : r = 5
  · by_cases z : cnt N = 0
    · exact ⟨-9, P, G, by rw [if_neg c0, if_neg c1, if_neg c2, if_neg c3, if_neg c4, if_pos c5, if_pos (by rw [z]; rfl)], ⟨N, S, g⟩, hI⟩
    · obtain ⟨t, t1, t2⟩ := rem_nI (c := cnt N) hx (by omega) (by omega)
      obtain ⟨y, P', G', e, q⟩ := o_setMark g hI t1
      rw [← t2] at e
      by_cases u : -1000000000 < y
      · exact ⟨1, P', G', by rw [if_neg c0, if_neg c1, if_neg c2, if_neg c3, if_neg c4, if_pos c5, if_neg (nI_ne0 (by omega) (by omega)), e, ob_some, lt_eq, lt_eq, if_pos u], q⟩
      · exact ⟨-8, P', G', by rw [if_neg c0, if_neg c1, if_neg c2, if_neg c3, if_neg c4, if_pos c5, if_neg (nI_ne0 (by omega) (by omega)), e, ob_some, lt_eq, lt_eq, if_neg u], q⟩
  by_cases c6 : r = 6
  · have hr := rem_bd (x := x / 2) (M := 2001) 2001 x2 rfl (by decide)
    have ev : (1000 : Int32).toInt = 1000 := rfl
    have hv : bd (((x / 2) - (x / 2) / 2001 * 2001) - 1000) (-9999) 9999 := by
      unfold bd
      rw [i32_sub (by rw [ev]; omega), ev]
      omega
    obtain ⟨y, P', G', e, q⟩ := o_setCurve g hI j2 hv
    rw [← ej] at e
    exact ⟨y, P', G', by rw [if_neg c0, if_neg c1, if_neg c2, if_neg c3, if_neg c4, if_neg c5, if_pos c6, e]; rfl, q⟩
  by_cases c7 : r = 7
  · by_cases z : cnt N = 0
    · exact ⟨-9, P, G, by rw [if_neg c0, if_neg c1, if_neg c2, if_neg c3, if_neg c4, if_neg c5, if_neg c6, if_pos c7, if_pos (by rw [z]; rfl)], ⟨N, S, g⟩, hI⟩
    · obtain ⟨t, t1, t2⟩ := rem_nI (c := cnt N) hx (by omega) (by omega)
      obtain ⟨y, P', G', e, q⟩ := o_mend g hI t1
      rw [← t2] at e
      exact ⟨y, P', G', by rw [if_neg c0, if_neg c1, if_neg c2, if_neg c3, if_neg c4, if_neg c5, if_neg c6, if_pos c7, if_neg (nI_ne0 (by omega) (by omega)), e]; rfl, q⟩
  by_cases c8 : r = 8
  · obtain ⟨y, P', G', e, q⟩ := refl_
    exact ⟨y, P', G', by rw [if_neg c0, if_neg c1, if_neg c2, if_neg c3, if_neg c4, if_neg c5, if_neg c6, if_neg c7, if_pos c8, e]; rfl, q⟩
  by_cases c9 : r = 9
  · obtain ⟨y, P', G', e, q⟩ := refl_
    exact ⟨y, P', G', by rw [if_neg c0, if_neg c1, if_neg c2, if_neg c3, if_neg c4, if_neg c5, if_neg c6, if_neg c7, if_neg c8, if_pos c9, e]; rfl, q⟩
  by_cases c10 : r = 10
  · obtain ⟨t, t1, t2⟩ := hp x2
    obtain ⟨y, P', G', e, q⟩ := o_addTube g hI j2 t1 (a3 := 1 + ((x / 16) - (x / 16) / 10 * 10)) (a4 := 50 + ((x / 160) - (x / 160) / 951 * 951)) (a5 := 100 + ((x / 300) - (x / 300) / 1900 * 1900)) (sum_bd (rem_bd 10 x16 rfl (by decide)) (k := 1) rfl (by decide)) (sum_bd (rem_bd 951 x160 rfl (by decide)) (k := 50) rfl (by decide)) (sum_bd (rem_bd 1900 x300 rfl (by decide)) (k := 100) rfl (by decide))
    rw [← ej, ← t2] at e
    exact ⟨y, P', G', by rw [if_neg c0, if_neg c1, if_neg c2, if_neg c3, if_neg c4, if_neg c5, if_neg c6, if_neg c7, if_neg c8, if_neg c9, if_pos c10, s_0 g, ob_some, if_pos hne, e]; rfl, q⟩
  · by_cases z : cnt N = 0
    · exact ⟨-9, P, G, by rw [if_neg c0, if_neg c1, if_neg c2, if_neg c3, if_neg c4, if_neg c5, if_neg c6, if_neg c7, if_neg c8, if_neg c9, if_neg c10, if_pos (by rw [z]; rfl)], ⟨N, S, g⟩, hI⟩
    · obtain ⟨t, t1, t2⟩ := rem_nI (c := cnt N) hx (by omega) (by omega)
      obtain ⟨y, P', G', e, q⟩ := o_dropTube g hI t1
      rw [← t2] at e
      exact ⟨y, P', G', by rw [if_neg c0, if_neg c1, if_neg c2, if_neg c3, if_neg c4, if_neg c5, if_neg c6, if_neg c7, if_neg c8, if_neg c9, if_neg c10, if_neg (nI_ne0 (by omega) (by omega)), e]; rfl, q⟩
theorem holds_ok (z : ZG) (hz : z.2.2.2.1 ≤ 260) {P : RowsS} {G : GlbS} (J : Jn P G) : ∃ P' G', f_L_holds z P G = some (true, P', G') := by
  obtain ⟨r, k1, P', G', k2, k3⟩ := wl_rel (f := fun t : Int32 × RowsS × GlbS => l_L_holds_3 z t.1 t.2.1 t.2.2) (fun i s => s.1 = nI i ∧ Jn s.2.1 s.2.2) (fun r => ∃ P' G', r = .inl (P', G') ∧ Jn P' G') 30 (fun i s hi hs => by
    obtain ⟨k, P1, G1⟩ := s
    obtain ⟨g1, ⟨N, S, g⟩, hI⟩ := hs
    simp only at g1 g hI
    subst g1
    obtain ⟨v, v1, v2, -⟩ := cell_ok z hz (k := i) (by omega)
    obtain ⟨y, P2, G2, e, q⟩ := acts_ok g hI v2
    refine ⟨(nI (i + 1), P2, G2), ?_, rfl, q⟩
    show l_L_holds_3 z (nI i) P1 G1 = _
    unfold l_L_holds_3
    rw [show (30 : Int32) = nI 30 from rfl, if_neg (by rw [nI_leI (by omega) (by omega)]; omega), areTubes_ok g, ob_some, if_pos rfl, show (0 : Int32) = nI 0 from rfl, isLevel_ok g (by decide), ob_some, if_pos rfl, show f_L_isLevel P1 G1 1 = some true from isLevel_ok g (j := 1) (by decide), ob_some, if_pos rfl, v1, ob_some, e, ob_some]
    simp only [lt, nI_1]) (fun s hs => by
    obtain ⟨k, P1, G1⟩ := s
    obtain ⟨g1, q⟩ := hs
    simp only at g1 q
    subst g1
    exact ⟨.inl (P1, G1), rfl, P1, G1, rfl, q⟩) 18 12 200 (12, P, G) (by omega) (by omega) ⟨rfl, J⟩
  subst k2
  obtain ⟨⟨N, S, g⟩, hI⟩ := k3
  refine ⟨P', G', ?_⟩
  unfold f_L_holds
  rw [k1, ob_some]
  show b_L_holds_50 P' G' = _
  unfold b_L_holds_50
  rw [areTubes_ok g, ob_some, if_pos rfl, show f_L_isLevel P' G' 0 = some true from isLevel_ok g (j := 0) (by decide), ob_some, if_pos rfl, show f_L_isLevel P' G' 1 = some true from isLevel_ok g (j := 1) (by decide), ob_some, if_pos rfl]
