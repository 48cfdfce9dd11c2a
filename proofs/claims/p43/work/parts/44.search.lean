/-! SEARCH -/
section CSIDE
variable {R : RowS} {N : Nat → Int32} {S : Nat → Int64}
theorem c_vols (h : wfN N) (r : Rel R N S) (q : Cach R N) {j : Nat} (L : Int64) {n : Nat} (hn : 12 < n) : f_X3_volumesAt n R (nI j) L = some (volS N j L (cnt N)) := by
  have hc := cnt_le h
  have key := wl_count (f := fun t : Int64 × Int32 => l_X3_volumesAt_6 R (nI j) L t.1 t.2) (fun i => (volS N j L i, nI i)) (cnt N) (volS N j L (cnt N)) (fun i hi => by
    have h2 := r.2.2.2.2.2 i hi 0 (by decide)
    have h3 := r.2.2.2.2.2 i hi 2 (by decide)
    show l_X3_volumesAt_6 R (nI j) L (volS N j L i) (nI i) = _
    unfold l_X3_volumesAt_6 b_X3_volumesAt_57
    rw [r.2.2.1, n2 h, if_neg (by rw [nI_leI (by omega) (by omega)]; omega)]
    simp only [lt, c_tubeAt (R := R) (show i < 12 by omega), h2, h3, c_col h r q hi, nI_1, volS, cvol]
    split <;> rfl) (by
    show l_X3_volumesAt_6 R (nI j) L (volS N j L (cnt N)) (nI (cnt N)) = _
    unfold l_X3_volumesAt_6
    rw [r.2.2.1, n2 h, if_pos (by rw [nI_leI (by omega) (by omega)]; omega)]) n (by omega)
  have e : wloop (fun t : Int64 × Int32 => l_X3_volumesAt_6 R (nI j) L t.1 t.2) n (0, 0) = some (volS N j L (cnt N)) := key
  unfold f_X3_volumesAt
  rw [e]
  rfl
theorem c_fulls (h : wfN N) (r : Rel R N S) {j : Nat} {n : Nat} (hn : 12 < n) : f_X3_fullVolumes n R (nI j) = some (fwS N j (cnt N)) := by
  have hc := cnt_le h
  have key := wl_count (f := fun t : Int64 × Int32 => l_X3_fullVolumes_5 R (nI j) t.1 t.2) (fun i => (fwS N j i, nI i)) (cnt N) (fwS N j (cnt N)) (fun i hi => by
    have h2 := r.2.2.2.2.2 i hi 0 (by decide)
    have h3 := r.2.2.2.2.2 i hi 6 (by decide)
    show l_X3_fullVolumes_5 R (nI j) (fwS N j i) (nI i) = _
    unfold l_X3_fullVolumes_5 b_X3_fullVolumes_47
    rw [r.2.2.1, n2 h, if_neg (by rw [nI_leI (by omega) (by omega)]; omega)]
    simp only [lt, c_tubeAt (R := R) (show i < 12 by omega), h2, h3, c_fvol r hi, nI_1, fwS]
    split
    · split <;> rfl
    · rfl) (by
    show l_X3_fullVolumes_5 R (nI j) (fwS N j (cnt N)) (nI (cnt N)) = _
    unfold l_X3_fullVolumes_5
    rw [r.2.2.1, n2 h, if_pos (by rw [nI_leI (by omega) (by omega)]; omega)]) n (by omega)
  have e : wloop (fun t : Int64 × Int32 => l_X3_fullVolumes_5 R (nI j) t.1 t.2) n (0, 0) = some (fwS N j (cnt N)) := key
  unfold f_X3_fullVolumes
  rw [e]
  rfl
theorem c_search (h : wfN N) (r : Rel R N S) (q : Cach R N) {j : Nat} (hj : j < 2) {n : Nat} (hn : 12 < n) : ∀ (e : Nat) (lo hi : Int64) (k m : Nat), lo.toInt ≤ hi.toInt → -2000000000 ≤ lo.toInt → hi.toInt ≤ 2000000000 → (lg N j 1).toInt * lo.toInt + volZ N j lo.toInt (cnt N) ≤ (S j).toInt → (S j).toInt < (lg N j 1).toInt * (hi.toInt + 1) + volZ N j (hi.toInt + 1) (cnt N) → hi.toInt - lo.toInt < ((2 ^ e : Nat) : Int) → k + e ≤ 60 → e < m → ∃ x, wloop (fun t : Int64 × Int64 × Int32 => l_X3_greatestLevel_51 n R (nI j) j t.1 t.2.1 t.2.2) m (lo, hi, nI k) = some x ∧ IsLev N S j x.toInt := by
  have e0 : (0 : Int64).toInt = 0 := rfl
  have e1 : (1 : Int64).toInt = 1 := rfl
  have e2 : (2 : Int64).toInt = 2 := rfl
  have stop : ∀ (lo hi : Int64) (k m : Nat), lo.toInt = hi.toInt → (lg N j 1).toInt * lo.toInt + volZ N j lo.toInt (cnt N) ≤ (S j).toInt → (S j).toInt < (lg N j 1).toInt * (hi.toInt + 1) + volZ N j (hi.toInt + 1) (cnt N) → k ≤ 60 → 0 < m → ∃ x, wloop (fun t : Int64 × Int64 × Int32 => l_X3_greatestLevel_51 n R (nI j) j t.1 t.2.1 t.2.2) m (lo, hi, nI k) = some x ∧ IsLev N S j x.toInt := by
    intro lo hi k m g1 g2 g3 g4 g5
    obtain ⟨m, rfl⟩ : ∃ i, m = i + 1 := ⟨m - 1, by omega⟩
    refine ⟨lo, wl_en ?_, g2, by rw [g1]; exact g3⟩
    show l_X3_greatestLevel_51 n R (nI j) j lo hi (nI k) = _
    unfold l_X3_greatestLevel_51
    rw [show (64 : Int32) = nI 64 from rfl, if_neg (by rw [nI_leI (by omega) (by omega)]; omega), if_pos (by rw [i64_le]; omega)]
  intro e
  induction e with
  | zero =>
    intro lo hi k m g1 g2 g3 g4 g5 g6 g7 g8
    exact stop lo hi k m (by have : ((2 ^ 0 : Nat) : Int) = 1 := rfl; omega) g4 g5 (by omega) g8
  | succ e ih =>
    intro lo hi k m g1 g2 g3 g4 g5 g6 g7 g8
    by_cases hc : lo.toInt = hi.toInt
    · exact stop lo hi k m hc g4 g5 (by omega) (by omega)
    · obtain ⟨m, rfl⟩ : ∃ i, m = i + 1 := ⟨m - 1, by omega⟩
      have hp : ((2 ^ (e + 1) : Nat) : Int) = ((2 ^ e : Nat) : Int) * 2 := by rw [Nat.pow_succ]; rfl
      rw [hp] at g6
      generalize ((2 ^ e : Nat) : Int) = p at g6 ih
      have d1 : (hi - lo).toInt = hi.toInt - lo.toInt := i64_sub (by omega)
      have d2 : (hi - lo + 1).toInt = hi.toInt - lo.toInt + 1 := by rw [i64_add (by rw [d1, e1]; omega), d1, e1]
      have d3 : ((hi - lo + 1) / 2).toInt = (hi.toInt - lo.toInt + 1) / 2 := by rw [i64_div (by rw [d2]; omega), d2, e2, Int.tdiv_eq_ediv_of_nonneg (by omega)]
      have d4 : (lo + (hi - lo + 1) / 2).toInt = lo.toInt + (hi.toInt - lo.toInt + 1) / 2 := by rw [i64_add (by rw [d3]; omega), d3]
      have r1 := (r.2.2.2.2.1 j hj).2.1
      have r2 := (r.2.2.2.2.1 j hj).2.2.2.1
      have st : ∀ mid, mid = lo + (hi - lo + 1) / 2 → l_X3_greatestLevel_51 n R (nI j) j lo hi (nI k) = if S j < ((lg N j 1).toInt64 * mid + volS N j mid (cnt N)) then some (.inl (lo, mid - 1, nI (k + 1))) else some (.inl (mid, hi, nI (k + 1))) := by
        intro mid hmid
        unfold l_X3_greatestLevel_51 b_X3_greatestLevel_115
        rw [show (64 : Int32) = nI 64 from rfl, if_neg (by rw [nI_leI (by omega) (by omega)]; omega), if_neg (by rw [i64_le]; omega)]
        simp only [lt, ← hmid, c_vols h r q mid hn, ob_some, r1, r2, nI_1]
      obtain ⟨mid, hmid⟩ : ∃ mid, mid = lo + (hi - lo + 1) / 2 := ⟨_, rfl⟩
      have st := st mid hmid
      rw [← hmid] at d4
      have hF := F_int h hj (L := mid) (by omega)
      by_cases hb : S j < ((lg N j 1).toInt64 * mid + volS N j mid (cnt N))
      · rw [if_pos hb] at st
        rw [i64_lt, hF] at hb
        have d5 : (mid - 1).toInt = mid.toInt - 1 := by rw [i64_sub (by rw [e1]; omega), e1]
        have := ih lo (mid - 1) (k + 1) m (by omega) (by omega) (by omega) g4 (by rw [d5, show mid.toInt - 1 + 1 = mid.toInt by omega]; exact hb) (by omega) (by omega) (by omega)
        obtain ⟨x, x1, x2⟩ := this
        exact ⟨x, (wl_st (f := fun t : Int64 × Int64 × Int32 => l_X3_greatestLevel_51 n R (nI j) j t.1 t.2.1 t.2.2) (s := (lo, hi, nI k)) st).trans x1, x2⟩
      · rw [if_neg hb] at st
        rw [i64_lt, hF] at hb
        have := ih mid hi (k + 1) m (by omega) (by omega) (by omega) (by omega) g5 (by omega) (by omega) (by omega)
        obtain ⟨x, x1, x2⟩ := this
        exact ⟨x, (wl_st (f := fun t : Int64 × Int64 × Int32 => l_X3_greatestLevel_51 n R (nI j) j t.1 t.2.1 t.2.2) (s := (lo, hi, nI k)) st).trans x1, x2⟩
end CSIDE
section CSIDE2
variable {R : RowS} {N : Nat → Int32} {S : Nat → Int64}
theorem c_level0 (h : wfN N) (hS : wfS N S) (r : Rel R N S) (q : Cach R N) {j : Nat} (hj : j < 2) {n : Nat} (hn : 60 < n) : ∃ x, f_X3_greatestLevel n R (nI j) = some x ∧ IsLev N S j x.toInt := by
  have hc := cnt_le h
  have ha := area_bd h hj
  have hs := S_bd h hS hj
  have hf := fw_int h hj
  have hf0 := hf 0 (cnt N) (Nat.le_refl _)
  have hv0 := vol_bd h j 0 (cnt N) (Nat.le_refl _)
  have d1 : (S j - fwS N j (cnt N)).toInt = (S j).toInt - (fwS N j (cnt N)).toInt := i64_sub (by omega)
  obtain ⟨lo, l1, l2⟩ := c_floor (a := S j - fwS N j (cnt N)) (b := (lg N j 1).toInt64) (by rw [d1]; omega) (by rw [i32_ext]; omega)
  obtain ⟨hi, i1, i2⟩ := c_floor (a := S j) (b := (lg N j 1).toInt64) (by omega) (by rw [i32_ext]; omega)
  rw [d1, i32_ext] at l2
  rw [i32_ext] at i2
  have he := ends_ok h hS hj (fun x => (hf x (cnt N) (Nat.le_refl _)).1) (by omega) l2 i2
  obtain ⟨x, x1, x2⟩ := c_search h r q hj (n := n) (by omega) 33 lo hi 0 n he.1 he.2.1 he.2.2.1 he.2.2.2.1 he.2.2.2.2 (by have : ((2 ^ 33 : Nat) : Int) = 8589934592 := rfl; omega) (by omega) (by omega)
  refine ⟨x, ?_, x2⟩
  have x1' : wloop (fun t : Int64 × Int64 × Int32 => l_X3_greatestLevel_51 n R (nI j) j t.1 t.2.1 t.2.2) n (lo, hi, 0) = some x := x1
  unfold f_X3_greatestLevel
  simp only [lt, c_legAt (R := R) hj, (r.2.2.2.2.1 j hj).2.1, (r.2.2.2.2.1 j hj).2.2.2.1]
  rw [if_neg (i32_ne (by omega)), c_fulls h r (by omega), ob_some, l1, ob_some, i1, ob_some, x1']
  rfl
end CSIDE2
section MSIDE
variable {M : RowS}
theorem m_stock {j : Nat} : (0 + nI j) = nI j := by rw [show (0 : Int32) = nI 0 from rfl, nI_add, Nat.zero_add]
end MSIDE
/-- the greatest level -/
noncomputable def levS (N : Nat → Int32) (S : Nat → Int64) (j : Nat) : Int64 := Classical.epsilon (fun x : Int64 => IsLev N S j x.toInt)
/-- a row of the class that holds these cells -/
noncomputable def rowOf (N : Nat → Int32) (S : Nat → Int64) : RowS :=
  (fun c k => match c with
    | 0 => N k
    | 1 => N (4 + k)
    | 2 => lg N 0 k
    | 3 => lg N 1 k
    | 4 => 0
    | t + 5 => if k = 7 then pullS N t else if k = 8 then menS N t else tg N t k,
   fun c k => if k = 3 then S (c - 2) else if k = 4 then S (2 + (c - 2)) else S (4 + (c - 2)))
theorem rowOf_rel {N : Nat → Int32} {S : Nat → Int64} : Rel (rowOf N S) N S ∧ Cach (rowOf N S) N := by
  refine ⟨⟨rfl, rfl, rfl, fun p hp => rfl, fun j hj => ?_, fun t ht k hk => ?_⟩, fun t ht => ⟨rfl, rfl⟩⟩
  · rcases (show j = 0 ∨ j = 1 by omega) with rfl | rfl <;> exact ⟨rfl, rfl, rfl, rfl, rfl, rfl⟩
  · show (if k = 7 then pullS N t else if k = 8 then menS N t else tg N t k) = _
    rw [if_neg (by omega), if_neg (by omega)]
theorem lev_is {N : Nat → Int32} {S : Nat → Int64} (h : wfN N) (hS : wfS N S) {j : Nat} (hj : j < 2) : IsLev N S j (levS N S j).toInt := by
  obtain ⟨x, -, hx⟩ := c_level0 h hS (rowOf_rel (N := N) (S := S)).1 rowOf_rel.2 hj (n := 61) (by decide)
  exact Classical.epsilon_spec (p := fun x : Int64 => IsLev N S j x.toInt) ⟨x, hx⟩
theorem lev_eq {N : Nat → Int32} {S : Nat → Int64} (h : wfN N) (hS : wfS N S) {j : Nat} (hj : j < 2) {x : Int64} (hx : IsLev N S j x.toInt) : x = levS N S j :=
  i64_eq (lev_unique h hj hx (lev_is h hS hj))
theorem c_level {R : RowS} {N : Nat → Int32} {S : Nat → Int64} (h : wfN N) (hS : wfS N S) (r : Rel R N S) (q : Cach R N) {j : Nat} (hj : j < 2) {n : Nat} (hn : 60 < n) : f_X3_greatestLevel n R (nI j) = some (levS N S j) := by
  obtain ⟨x, h1, h2⟩ := c_level0 h hS r q hj hn
  rw [h1, lev_eq h hS hj h2]
