/-! BEGINNING -/
def begN (a b : Int32) : Nat → Int32 := fun k => if k = 0 then a else if k = 1 then b else if 4 ≤ k ∧ k < 12 then 50000 else if k = 12 ∨ k = 15 then 1000 else if k = 13 ∨ k = 16 then 10000 else 0
theorem ext_up {α : Type} {f g : Nat → α} {i : Nat} {v : α} (h : ∀ k, k ≠ i → f k = g k) (hv : g i = v) : va_up f i v = g := by
  funext k
  by_cases q : k = i
  · subst q; rw [va_up_self, hv]
  · rw [va_up_ne _ _ q, h k q]
def zf {α : Type} (z : α) (f : Nat → α) (i : Nat) : Nat → α := fun k => if k < i then z else f k
theorem zf_0 {α : Type} {z : α} {f : Nat → α} : zf z f 0 = f := by funext k; unfold zf; rw [if_neg (by omega)]
theorem zf_s {α : Type} {z : α} {f : Nat → α} {i : Nat} : va_up (zf z f i) i z = zf z f (i + 1) := by
  refine ext_up (fun k hk => ?_) ?_
  · unfold zf
    by_cases q : k < i
    · rw [if_pos q, if_pos (by omega)]
    · rw [if_neg q, if_neg (by omega)]
  · unfold zf; rw [if_pos (by omega)]
def begP (a b : Int32) (i : Nat) : Nat → Int32 := fun k => if k = 0 then a else if k = 1 then b else if 4 ≤ k ∧ k < 4 + i then 50000 else 0
def begL (a b : Int32) (i : Nat) : Nat → Int32 := fun k => if k = 0 then a else if k = 1 then b else if 4 ≤ k ∧ k < 12 then 50000 else if k = 12 ∧ 0 < i then 1000 else if k = 13 ∧ 0 < i then 10000 else if k = 15 ∧ 1 < i then 1000 else if k = 16 ∧ 1 < i then 10000 else 0
theorem m_layleg {M : RowS} {N : Nat → Int32} {S : Nat → Int64} {j : Nat} (hj : j < 2) (a b c : Int32) : f_X8_laysLeg (mk M N S) (nI j) a b c = some (mk M (va_up (va_up (va_up N (12 + 3 * j + 0) a) (12 + 3 * j + 1) b) (12 + 3 * j + 2) c) S) := by
  have e0 : (12 + (3 * nI j)) + 0 = nI (12 + 3 * j + 0) := m_legcell j 0
  have e1 : (12 + (3 * nI j)) + 1 = nI (12 + 3 * j + 1) := m_legcell j 1
  have e2 : (12 + (3 * nI j)) + 2 = nI (12 + 3 * j + 2) := m_legcell j 2
  unfold f_X8_laysLeg
  rw [e0, e1, e2, if_pos (by rw [nI_toInt (by omega)]; omega), lt_eq, if_pos (by rw [nI_toInt (by omega)]; omega), lt_eq, if_pos (by rw [nI_toInt (by omega)]; omega), lt_eq, nI_clamp (by omega), nI_clamp (by omega), nI_clamp (by omega), mk_si, mk_si, mk_si]
theorem m_begins {M : RowS} (z : ZB (M.1 1) (M.2 5)) (a b : Int32) {n : Nat} (hn : 102 < n) : f_X8_begins n M a b = some (mk M (begN a b) (fun _ => 0)) := by
  have k1 : wloop (fun t : Int32 × RowS => l_X8_begins_2 t.1 t.2) n (0, M) = some (mk M (zf 0 (M.1 1) 102) (M.2 5)) := by
    have key := wl_count (f := fun t : Int32 × RowS => l_X8_begins_2 t.1 t.2) (fun i => (nI i, mk M (zf 0 (M.1 1) i) (M.2 5))) 102 (mk M (zf 0 (M.1 1) 102) (M.2 5)) (fun i hi => by
      show l_X8_begins_2 (nI i) (mk M (zf 0 (M.1 1) i) (M.2 5)) = _
      unfold l_X8_begins_2
      rw [show (102 : Int32) = nI 102 from rfl, if_neg (by rw [nI_leI (by omega) (by omega)]; omega), if_pos (by rw [nI_toInt (by omega)]; omega), nI_clamp (by omega), mk_si, zf_s]
      simp only [lt, nI_1]) (by
      show l_X8_begins_2 (nI 102) _ = _
      unfold l_X8_begins_2
      rw [if_pos (by decide)]) n (by omega)
    simp only [zf_0, mk_id] at key
    exact key
  have n1 : zf 0 (M.1 1) 102 = fun _ => 0 := by
    funext k
    unfold zf
    by_cases q : k < 102
    · rw [if_pos q]
    · rw [if_neg q, z.1 k (by omega)]
  have s1 : zf 0 (M.2 5) 6 = fun _ => 0 := by
    funext k
    unfold zf
    by_cases q : k < 6
    · rw [if_pos q]
    · rw [if_neg q, z.2 k (by omega)]
  rw [n1] at k1
  have k2 : wloop (fun t : Int32 × RowS => l_X8_begins_23 t.1 t.2) n (0, mk M (fun _ => 0) (M.2 5)) = some (mk M (fun _ => 0) (zf 0 (M.2 5) 6)) := by
    have key := wl_count (f := fun t : Int32 × RowS => l_X8_begins_23 t.1 t.2) (fun i => (nI i, mk M (fun _ => 0) (zf 0 (M.2 5) i))) 6 (mk M (fun _ => 0) (zf 0 (M.2 5) 6)) (fun i hi => by
      show l_X8_begins_23 (nI i) (mk M (fun _ => 0) (zf 0 (M.2 5) i)) = _
      unfold l_X8_begins_23
      rw [show (6 : Int32) = nI 6 from rfl, if_neg (by rw [nI_leI (by omega) (by omega)]; omega), if_pos (by rw [nI_toInt (by omega)]; omega), nI_clamp (by omega), mk_sl, zf_s]
      simp only [lt, nI_1]) (by
      show l_X8_begins_23 (nI 6) _ = _
      unfold l_X8_begins_23
      rw [if_pos (by decide)]) n (by omega)
    simp only [zf_0] at key
    exact key
  rw [s1] at k2
  have p0 : va_up (va_up (fun _ => (0 : Int32)) 0 a) 1 b = begP a b 0 := by
    refine ext_up (fun k hk => ?_) (by unfold begP; rw [if_neg (by decide), if_pos rfl])
    unfold begP va_up
    by_cases q : k = 0
    · rw [if_pos q, if_pos q]
    · rw [if_neg q, if_neg q, if_neg hk, if_neg (by omega)]
  have k3 : wloop (fun t : Int32 × RowS => l_X8_begins_58 t.1 t.2) n (0, mk M (begP a b 0) (fun _ => 0)) = some (mk M (begP a b 8) (fun _ => 0)) := by
    exact wl_count (f := fun t : Int32 × RowS => l_X8_begins_58 t.1 t.2) (fun i => (nI i, mk M (begP a b i) (fun _ => 0))) 8 (mk M (begP a b 8) (fun _ => 0)) (fun i hi => by
      show l_X8_begins_58 (nI i) (mk M (begP a b i) (fun _ => 0)) = _
      have e4 : (4 : Int32) + nI i = nI (4 + i) := by rw [show (4 : Int32) = nI 4 from rfl, nI_add]
      have es : va_up (begP a b i) (4 + i) 50000 = begP a b (i + 1) := by
        refine ext_up (fun k hk => ?_) (by unfold begP; rw [if_neg (by omega), if_neg (by omega), if_pos (by omega)])
        unfold begP
        by_cases q : 4 ≤ k ∧ k < 4 + i
        · rw [if_pos q, if_pos (show 4 ≤ k ∧ k < 4 + (i + 1) by omega)]
        · rw [if_neg q, if_neg (show ¬ (4 ≤ k ∧ k < 4 + (i + 1)) by omega)]
      unfold l_X8_begins_58
      rw [show (8 : Int32) = nI 8 from rfl, if_neg (by rw [nI_leI (by omega) (by omega)]; omega), e4, if_pos (by rw [nI_toInt (by omega)]; omega), nI_clamp (by omega), mk_si, es]
      simp only [lt, nI_1]) (by
      show l_X8_begins_58 (nI 8) _ = _
      unfold l_X8_begins_58
      rw [if_pos (by decide)]) n (by omega)
  have p8 : begP a b 8 = begL a b 0 := by
    funext k
    unfold begP begL
    by_cases q0 : k = 0
    · rw [if_pos q0, if_pos q0]
    · by_cases q1 : k = 1
      · rw [if_neg q0, if_pos q1, if_neg q0, if_pos q1]
      · rw [if_neg q0, if_neg q1, if_neg q0, if_neg q1]
        by_cases q : 4 ≤ k ∧ k < 12
        · rw [if_pos (by omega), if_pos q]
        · rw [if_neg (by omega), if_neg q, if_neg (by omega), if_neg (by omega), if_neg (by omega), if_neg (by omega)]
  have k4 : wloop (fun t : Int32 × RowS => l_X8_begins_82 t.1 t.2) n (0, mk M (begL a b 0) (fun _ => 0)) = some (mk M (begL a b 2) (fun _ => 0)) := by
    exact wl_count (f := fun t : Int32 × RowS => l_X8_begins_82 t.1 t.2) (fun i => (nI i, mk M (begL a b i) (fun _ => 0))) 2 (mk M (begL a b 2) (fun _ => 0)) (fun i hi => by
      show l_X8_begins_82 (nI i) (mk M (begL a b i) (fun _ => 0)) = _
      have es : va_up (va_up (va_up (begL a b i) (12 + 3 * i + 0) 1000) (12 + 3 * i + 1) 10000) (12 + 3 * i + 2) 0 = begL a b (i + 1) := by
        funext k
        unfold va_up begL
        rcases (show i = 0 ∨ i = 1 by omega) with rfl | rfl
        · by_cases h14 : k = 14
          · subst h14; rfl
          · by_cases h13 : k = 13
            · subst h13; rfl
            · by_cases h12 : k = 12
              · subst h12; rfl
              · rw [if_neg (show ¬ k = 12 + 3 * 0 + 2 by omega), if_neg (show ¬ k = 12 + 3 * 0 + 1 by omega), if_neg (show ¬ k = 12 + 3 * 0 + 0 by omega)]
                simp only [h12, h13, false_and, if_false, show ¬ (1 < 0) by decide, show ¬ (1 < 0 + 1) by decide, and_false]
        · by_cases h14 : k = 17
          · subst h14; rfl
          · by_cases h13 : k = 16
            · subst h13; rfl
            · by_cases h12 : k = 15
              · subst h12; rfl
              · rw [if_neg (show ¬ k = 12 + 3 * 1 + 2 by omega), if_neg (show ¬ k = 12 + 3 * 1 + 1 by omega), if_neg (show ¬ k = 12 + 3 * 1 + 0 by omega)]
                simp only [h12, h13, false_and, if_false, show (0 < 1) by decide, show (0 < 1 + 1) by decide]
      unfold l_X8_begins_82
      rw [show (2 : Int32) = nI 2 from rfl, if_neg (by rw [nI_leI (by omega) (by omega)]; omega), m_layleg hi, ob_some, es]
      simp only [lt, nI_1]) (by
      show l_X8_begins_82 (nI 2) _ = _
      unfold l_X8_begins_82
      rw [if_pos (by decide)]) n (by omega)
  have p9 : begL a b 2 = begN a b := by
    funext k
    unfold begL begN
    by_cases q0 : k = 0
    · rw [if_pos q0, if_pos q0]
    · by_cases q1 : k = 1
      · rw [if_neg q0, if_pos q1, if_neg q0, if_pos q1]
      · rw [if_neg q0, if_neg q1, if_neg q0, if_neg q1]
        by_cases q : 4 ≤ k ∧ k < 12
        · rw [if_pos q, if_pos q]
        · rw [if_neg q, if_neg q]
          by_cases h12 : k = 12
          · subst h12; rfl
          · by_cases h13 : k = 13
            · subst h13; rfl
            · by_cases h15 : k = 15
              · subst h15; rfl
              · by_cases h16 : k = 16
                · subst h16; rfl
                · rw [if_neg (by omega), if_neg (by omega), if_neg (by omega), if_neg (by omega), if_neg (by omega), if_neg (by omega)]
  unfold f_X8_begins
  rw [k1, ob_some]
  unfold b_X8_begins_21
  rw [k2, ob_some]
  unfold b_X8_begins_42
  rw [if_pos (by decide), show (0 : Int32).toNatClampNeg = 0 from rfl, mk_si, lt_eq, if_pos (by decide), show (1 : Int32).toNatClampNeg = 1 from rfl, mk_si, lt_eq, p0, k3, ob_some]
  unfold b_X8_begins_80
  rw [p8, k4, ob_some, p9]
  rfl
theorem beg_cnt {a b : Int32} : cnt (begN a b) = 0 := rfl
theorem beg_wf {a b : Int32} (ha : bd a 2 8) (hb : bd b 0 99999) : wfN (begN a b) := by
  have e2 : begN a b 2 = 0 := rfl
  refine ⟨ha, hb, by rw [e2]; unfold bd; decide, fun p hp => ?_, fun j hj => ?_, fun t ht => ?_⟩
  · have : begN a b (4 + p) = 50000 := by
      unfold begN
      rw [if_neg (by omega), if_neg (by omega), if_pos (by omega)]
    rw [this]
    unfold bd
    decide
  · rcases (show j = 0 ∨ j = 1 by omega) with rfl | rfl
    · have e0 : lg (begN a b) 0 0 = 1000 := rfl
      have e1 : lg (begN a b) 0 1 = 10000 := rfl
      have e2 : lg (begN a b) 0 2 = 0 := rfl
      rw [e0, e1, e2]
      unfold bd
      decide
    · have e0 : lg (begN a b) 1 0 = 1000 := rfl
      have e1 : lg (begN a b) 1 1 = 10000 := rfl
      have e2 : lg (begN a b) 1 2 = 0 := rfl
      rw [e0, e1, e2]
      unfold bd
      decide
  · rw [beg_cnt] at ht; omega
theorem z_wfS {N : Nat → Int32} (h : wfN N) : wfS N (fun _ => 0) := by
  intro j hj
  have h1 := area_bd h hj
  have h2 := lowL_bd h hj
  have h3 : 0 ≤ (lg N j 1).toInt * lowL N j := Int.mul_nonneg (by omega) (by omega)
  have e : (0 : Int64).toInt = 0 := rfl
  show _ ≤ (0 : Int64).toInt ∧ (0 : Int64).toInt ≤ (0 : Int64).toInt ∧ 0 ≤ (0 : Int64).toInt ∧ (0 : Int64).toInt ≤ 2000000000
  rw [e]
  omega
theorem beg_zb {a b : Int32} : ZB (begN a b) (fun _ => 0) := ⟨fun k hk => by
  unfold begN
  rw [if_neg (by omega), if_neg (by omega), if_neg (by omega), if_neg (by omega), if_neg (by omega)], fun _ _ => rfl⟩
theorem c_clear {R : RowS} {a b : Int32} {n : Nat} (hn : 8 < n) : ∃ R', f_X3_clear n R a b = some R' ∧ Rel R' (begN a b) (fun _ => 0) ∧ ∀ j, j < 2 → R'.2 (j + 2) 6 = 0 := by
  obtain ⟨R1, k1, k2, k3⟩ := wl_rel (f := fun t : Int32 × RowS => l_X3_clear_17 t.1 t.2) (fun i s => s.1 = nI i ∧ (s.2.1 0 0 = a ∧ s.2.1 0 1 = b ∧ s.2.1 0 2 = 0) ∧ ∀ p, p < i → s.2.1 1 p = 50000) (fun p => (p.1 0 0 = a ∧ p.1 0 1 = b ∧ p.1 0 2 = 0) ∧ ∀ q, q < 8 → p.1 1 q = 50000) 8 (fun i s hi hs => by
    obtain ⟨z, R1⟩ := s
    obtain ⟨g1, g2, g3⟩ := hs
    simp only at g1 g2 g3
    subst g1
    refine ⟨(nI (i + 1), si R1 1 i 50000), ?_, rfl, ?_, fun p hp => ?_⟩
    · show l_X3_clear_17 (nI i) R1 = _
      unfold l_X3_clear_17
      rw [show (8 : Int32) = nI 8 from rfl, if_neg (by rw [nI_leI (by omega) (by omega)]; omega), if_pos (by rw [nI_toInt (by omega)]; omega), nI_clamp (by omega)]
      simp only [lt, nI_1]
    · rw [si_ne (Or.inl (by decide)), si_ne (Or.inl (by decide)), si_ne (Or.inl (by decide))]
      exact g2
    · by_cases q : p = i
      · subst q; exact si_at
      · rw [si_ne (Or.inr q)]; exact g3 p (by omega)) (fun s hs => by
    obtain ⟨z, R1⟩ := s
    obtain ⟨g1, g2, g3⟩ := hs
    simp only at g1 g2 g3
    subst g1
    exact ⟨R1, rfl, g2, g3⟩) 8 0 n (0, si (si (si R 0 0 a) 0 1 b) 0 2 0) (by omega) (by omega) ⟨rfl, ⟨rfl, rfl, rfl⟩, fun p hp => by omega⟩
  refine ⟨stL (stL R1 (0 + 2) (f_X1_clear (R1.1 (0 + 2), R1.2 (0 + 2)))) (1 + 2) (f_X1_clear ((stL R1 (0 + 2) (f_X1_clear (R1.1 (0 + 2), R1.2 (0 + 2)))).1 (1 + 2), (stL R1 (0 + 2) (f_X1_clear (R1.1 (0 + 2), R1.2 (0 + 2)))).2 (1 + 2))), ?_, ⟨?_, ?_, ?_, fun p hp => ?_, fun j hj => ?_, fun t ht => ?_⟩, fun j hj => ?_⟩
  · unfold f_X3_clear
    simp only [lt]
    rw [k1, ob_some]
    rfl
  · rw [stL_1n (by decide), stL_1n (by decide)]; exact k2.1
  · rw [stL_1n (by decide), stL_1n (by decide)]; exact k2.2.1
  · rw [stL_1n (by decide), stL_1n (by decide)]; exact k2.2.2
  · have : begN a b (4 + p) = 50000 := by
      unfold begN
      rw [if_neg (by omega), if_neg (by omega), if_pos (by omega)]
    rw [stL_1n (by decide), stL_1n (by decide), this]; exact k3 p hp
  · rcases (show j = 0 ∨ j = 1 by omega) with rfl | rfl
    · exact ⟨rfl, rfl, rfl, rfl, rfl, rfl⟩
    · exact ⟨rfl, rfl, rfl, rfl, rfl, rfl⟩
  · rw [beg_cnt] at ht; omega
  · rcases (show j = 0 ∨ j = 1 by omega) with rfl | rfl
    · rfl
    · rfl
theorem beg_good {R : RowS} {a b : Int32} (ha : bd a 2 8) (hb : bd b 0 99999) (r : Rel R (begN a b) (fun _ => 0)) (hl : ∀ j, j < 2 → R.2 (j + 2) 6 = 0) : Good R (begN a b) (fun _ => 0) := by
  have w := beg_wf ha hb
  refine ⟨w, z_wfS w, beg_zb, fun j hj t ht => by rw [beg_cnt] at ht; omega, r, fun t ht => by rw [beg_cnt] at ht; omega, fun j hj => ?_, fun t ht => by rw [beg_cnt] at ht; omega⟩
  rw [hl j hj]
  refine lev_eq w (z_wfS w) hj ?_
  have h1 := area_bd w hj
  unfold IsLev
  rw [beg_cnt]
  show _ * (0 : Int64).toInt + 0 ≤ (0 : Int64).toInt ∧ (0 : Int64).toInt < _ * ((0 : Int64).toInt + 1) + 0
  have e : (0 : Int64).toInt = 0 := rfl
  rw [e, Int.mul_zero]
  have e1 : (lg (begN a b) j 1).toInt * (0 + 1) = (lg (begN a b) j 1).toInt := by rw [Int.zero_add, Int.mul_one]
  rw [e1]
  omega
theorem M1z_is : M1z = mk Mz (begN 2 50000) (fun _ => 0) := by
  have h := m_begins (M := Mz) ⟨fun _ _ => rfl, fun _ _ => rfl⟩ 2 50000 (n := 200) (by omega)
  rw [M1z_eq] at h
  exact Option.some.inj h
theorem hinit : Inv (va_up Pz 0 R1) Gz M1z := by
  obtain ⟨R', k1, k2, k3⟩ := c_clear (R := Rz) (a := 2) (b := 50000) (n := 9) (by omega)
  rw [R1_eq] at k1
  cases Option.some.inj k1
  rw [M1z_is]
  refine ⟨?_, ⟨0, 0, by decide, by decide, rfl, rfl, rfl, fun i hi => by omega⟩, Or.inl ⟨rfl, rfl⟩, ⟨0, by decide, rfl, rfl, fun k hk => by omega⟩, rfl, ⟨0, by decide, rfl, rfl, fun k hk => by omega⟩⟩
  rw [va_up_self, mk_1, mk_2]
  exact beg_good (by unfold bd; decide) (by unfold bd; decide) k2 k3
