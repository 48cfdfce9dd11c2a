/-! VIEW: what is seen of a settled row -/
noncomputable def columnS (N : Nat → Int32) (S : Nat → Int64) (t : Nat) : Int32 := (colS N t (levS N S (lgOf N t))).toInt32
noncomputable def readS (N : Nat → Int32) (S : Nat → Int64) (t : Nat) : Int32 := (columnS N S t / 10) + tg N t 5
noncomputable def uprS (N : Nat → Int32) (S : Nat → Int64) (t : Nat) : Int64 := ((columnS N S t).toInt64 * (tg N t 3).toInt64) / 1000
noncomputable def toldS (N : Nat → Int32) (S : Nat → Int64) (t : Nat) : Int32 := ((N 1).toInt64 - (((uprS N S t - levS N S (lgOf N t)) - (menS N t).toInt64) * (lg N (lgOf N t) 0).toInt64) / 1000).toInt32
noncomputable def offS (N : Nat → Int32) (S : Nat → Int64) (t : Nat) : Int32 := toldS N S t - N (4 + ptOf N t)
noncomputable def diffS (N : Nat → Int32) (S : Nat → Int64) (a b : Nat) : Int32 := if tg N a 0 = tg N b 0 then ((((((uprS N S b - uprS N S a) - (menS N b).toInt64) + (menS N a).toInt64)) * (lg N (lgOf N a) 0).toInt64) / 1000).toInt32 else toldS N S a - toldS N S b
section MVIEW
variable {M : RowS} {t n : Nat}
theorem m_column (h : wfN (M.1 1)) (hS : wfS (M.1 1) (M.2 5)) (ht : t < cnt (M.1 1)) (hn : 60 < n) : f_X8_columnOf n M (nI t) = some (columnS (M.1 1) (M.2 5) t) := by
  have hc := cnt_le h
  unfold f_X8_columnOf
  rw [m_of0 (by omega), ob_some, tg0 h ht, m_level h hS (lgOf_lt h ht) hn, ob_some, m_col h ht, ob_some]
  rfl
theorem m_reading (h : wfN (M.1 1)) (hS : wfS (M.1 1) (M.2 5)) (ht : t < cnt (M.1 1)) (hn : 60 < n) : f_X8_readingOf n M (nI t) = some (readS (M.1 1) (M.2 5) t) := by
  have hc := cnt_le h
  unfold f_X8_readingOf
  rw [m_column h hS ht hn, ob_some, m_of5 (by omega), ob_some]
  rfl
theorem m_upr (h : wfN (M.1 1)) (hS : wfS (M.1 1) (M.2 5)) (ht : t < cnt (M.1 1)) (hn : 60 < n) : f_X8_upright n M (nI t) = some (uprS (M.1 1) (M.2 5) t) := by
  have hc := cnt_le h
  unfold f_X8_upright
  rw [m_column h hS ht hn, ob_some, m_of3 (by omega), ob_some]
  rfl
theorem m_told (h : wfN (M.1 1)) (hS : wfS (M.1 1) (M.2 5)) (ht : t < cnt (M.1 1)) (hn : 60 < n) : f_X8_toldBy n M (nI t) = some (toldS (M.1 1) (M.2 5) t) := by
  have hc := cnt_le h
  unfold f_X8_toldBy
  rw [m_of0 (by omega), ob_some, tg0 h ht, m_upr h hS ht hn, ob_some, m_level h hS (lgOf_lt h ht) hn, ob_some, m_men h ht, ob_some, lt_eq, if_pos (by decide), m_leg0 (lgOf_lt h ht), ob_some]
  rfl
theorem m_off (h : wfN (M.1 1)) (hS : wfS (M.1 1) (M.2 5)) (ht : t < cnt (M.1 1)) (hn : 60 < n) : f_X8_offOf n M (nI t) = some (offS (M.1 1) (M.2 5) t) := by
  have hc := cnt_le h
  have hp := ptOf_lt h ht
  unfold f_X8_offOf
  rw [m_told h hS ht hn, ob_some, m_of1 (by omega), ob_some, tg1 h ht, show (4 : Int32) = nI 4 from rfl, nI_add, if_pos (by rw [nI_toInt (by omega)]; omega), nI_clamp (by omega)]
  rfl
theorem m_diff {a b : Nat} (h : wfN (M.1 1)) (hS : wfS (M.1 1) (M.2 5)) (ha : a < cnt (M.1 1)) (hb : b < cnt (M.1 1)) (hn : 60 < n) : f_X8_differenceOf n M (nI a) (nI b) = some (diffS (M.1 1) (M.2 5) a b) := by
  have hc := cnt_le h
  unfold f_X8_differenceOf diffS
  rw [m_of0 (show a < 12 by omega), ob_some, m_of0 (show b < 12 by omega), ob_some]
  by_cases hq : tg (M.1 1) a 0 = tg (M.1 1) b 0
  · rw [if_pos hq, if_pos hq, m_upr h hS hb hn, ob_some, m_upr h hS ha hn, ob_some, m_men h hb, ob_some, m_men h ha, ob_some, lt_eq, ob_some, tg0 h ha, m_leg0 (lgOf_lt h ha), ob_some]
  · rw [if_neg hq, if_neg hq, m_told h hS ha hn, ob_some, m_told h hS hb hn, ob_some]
end MVIEW
section BOUNDS
variable {N : Nat → Int32} {S : Nat → Int64} {t : Nat}
theorem i64_32 {x : Int64} (h : -2147483648 ≤ x.toInt ∧ x.toInt ≤ 2147483647) : x.toInt32.toInt = x.toInt := by
  rw [Int64.toInt_toInt32, Int.bmod_eq_of_le (by omega) (by omega)]
theorem column_int (h : wfN N) (hS : wfS N S) (ht : t < cnt N) : (columnS N S t).toInt = colZ N t (levS N S (lgOf N t)).toInt ∧ 0 ≤ (columnS N S t).toInt ∧ (columnS N S t).toInt ≤ (fullS N t).toInt := by
  have h1 := lev_bd2 h hS (lgOf_lt h ht)
  have h2 := col_int h ht (L := levS N S (lgOf N t)) (by omega)
  have h3 := col_bd h ht (levS N S (lgOf N t)).toInt
  have h4 := full_int h ht
  have e : (columnS N S t).toInt = colZ N t (levS N S (lgOf N t)).toInt := by
    unfold columnS
    rw [i64_32 (by omega), h2]
  omega
theorem upr_int (h : wfN N) (hS : wfS N S) (ht : t < cnt N) : (uprS N S t).toInt = ((columnS N S t).toInt * (tg N t 3).toInt) / 1000 ∧ 0 ≤ (uprS N S t).toInt ∧ (uprS N S t).toInt ≤ 200000 ∧ 0 ≤ (columnS N S t).toInt * (tg N t 3).toInt ∧ (columnS N S t).toInt * (tg N t 3).toInt ≤ 200000000 := by
  have h1 := column_int h hS ht
  have h2 := full_int h ht
  have h3 := (h.2.2.2.2.2 t ht).2.2.2.2.1
  unfold bd at h3
  have h4 := mul_bd (a := (columnS N S t).toInt) (b := (tg N t 3).toInt) (A := 200000) (B := 1000) (by omega) (by omega)
  have h5 : 0 ≤ (columnS N S t).toInt * (tg N t 3).toInt := Int.mul_nonneg (by omega) (by omega)
  have e0 : (1000 : Int64).toInt = 1000 := rfl
  have e1 : ((columnS N S t).toInt64 * (tg N t 3).toInt64).toInt = (columnS N S t).toInt * (tg N t 3).toInt := by rw [i64_mul (by rw [i32_ext, i32_ext]; omega), i32_ext, i32_ext]
  have e2 : (uprS N S t).toInt = ((columnS N S t).toInt * (tg N t 3).toInt) / 1000 := by
    unfold uprS
    rw [i64_div (by rw [e1]; omega), e1, e0, Int.tdiv_eq_ediv_of_nonneg h5]
  omega
theorem upr_i32 (h : wfN N) (hS : wfS N S) (ht : t < cnt N) : ((columnS N S t * tg N t 3) / 1000).toInt64 = uprS N S t := by
  have h1 := upr_int h hS ht
  have e0 : (1000 : Int32).toInt = 1000 := rfl
  have e1 : (columnS N S t * tg N t 3).toInt = (columnS N S t).toInt * (tg N t 3).toInt := i32_mul (by omega)
  apply i64_eq
  rw [i32_ext, i32_div (by rw [e1]; omega), e1, e0, Int.tdiv_eq_ediv_of_nonneg (by omega), h1.1]
theorem told_bd (h : wfN N) (hS : wfS N S) (ht : t < cnt N) : -500000000 ≤ (toldS N S t).toInt ∧ (toldS N S t).toInt ≤ 500000000 := by
  have hj := lgOf_lt h ht
  have h1 := upr_int h hS ht
  have h2 := lev_bd2 h hS hj
  have h3 := men_int h ht
  have h4 := lowL_bd h hj
  have h5 := (h.2.2.2.2.1 _ hj).1
  have h6 := h.2.1
  unfold bd at h5 h6
  have e0 : (1000 : Int64).toInt = 1000 := rfl
  have d1 : (uprS N S t - levS N S (lgOf N t)).toInt = (uprS N S t).toInt - (levS N S (lgOf N t)).toInt := i64_sub (by omega)
  have d2 : ((uprS N S t - levS N S (lgOf N t)) - (menS N t).toInt64).toInt = (uprS N S t).toInt - (levS N S (lgOf N t)).toInt - (menS N t).toInt := by rw [i64_sub (by rw [d1, i32_ext]; omega), d1, i32_ext]
  generalize hx : (uprS N S t).toInt - (levS N S (lgOf N t)).toInt - (menS N t).toInt = x at d2
  -- x is at most what is over the low level
  have x1 : -20010000 ≤ x := by omega
  have x2 : x ≤ (lowL N (lgOf N t) - 9999) + 19600000 := by omega
  have m1 : x * (lg N (lgOf N t) 0).toInt ≤ ((lowL N (lgOf N t) - 9999) + 19600000) * (lg N (lgOf N t) 0).toInt := Int.mul_le_mul_of_nonneg_right x2 (by omega)
  have m2 : -20010000 * (lg N (lgOf N t) 0).toInt ≤ x * (lg N (lgOf N t) 0).toInt := Int.mul_le_mul_of_nonneg_right x1 (by omega)
  rw [Int.add_mul] at m1
  have d3 : (((uprS N S t - levS N S (lgOf N t)) - (menS N t).toInt64) * (lg N (lgOf N t) 0).toInt64).toInt = x * (lg N (lgOf N t) 0).toInt := by rw [i64_mul (by rw [d2, i32_ext]; omega), d2, i32_ext]
  have d4 : ((((uprS N S t - levS N S (lgOf N t)) - (menS N t).toInt64) * (lg N (lgOf N t) 0).toInt64) / 1000).toInt = (x * (lg N (lgOf N t) 0).toInt).tdiv 1000 := by rw [i64_div (by rw [d3]; omega), d3, e0]
  have d5 : ((x * (lg N (lgOf N t) 0).toInt).tdiv 1000).natAbs ≤ 401000000 := by
    rw [Int.natAbs_tdiv]
    show _ / 1000 ≤ _
    omega
  have d6 : ((N 1).toInt64 - (((uprS N S t - levS N S (lgOf N t)) - (menS N t).toInt64) * (lg N (lgOf N t) 0).toInt64) / 1000).toInt = (N 1).toInt - (x * (lg N (lgOf N t) 0).toInt).tdiv 1000 := by rw [i64_sub (by rw [d4, i32_ext]; omega), d4, i32_ext]
  unfold toldS
  rw [i64_32 (by rw [d6]; omega), d6]
  omega
theorem off_bd (h : wfN N) (hS : wfS N S) (ht : t < cnt N) : -600000000 ≤ (offS N S t).toInt ∧ (offS N S t).toInt ≤ 600000000 := by
  have h1 := told_bd h hS ht
  have h2 := h.2.2.2.1 _ (ptOf_lt h ht)
  unfold bd at h2
  unfold offS
  rw [i32_sub (by omega)]
  omega
end BOUNDS
section CVIEW
variable {R : RowS} {N : Nat → Int32} {S : Nat → Int64} {t : Nat}
theorem c_tg (g : Good R N S) (ht : t < cnt N) {k : Nat} (hk : k < 7) : R.1 (t + 5) k = tg N t k := g.2.2.2.2.1.2.2.2.2.2 t ht k hk
theorem c_column (g : Good R N S) (ht : t < cnt N) : R.1 (t + 5) 9 = columnS N S t := g.2.2.2.2.2.2.2 t ht
theorem c_reading (g : Good R N S) (ht : t < cnt N) : f_X6_shownReading (R.1 (t + 5)) = readS N S t := by
  unfold f_X6_shownReading readS
  rw [c_column g ht, c_tg g ht (by decide)]
theorem c_upr (g : Good R N S) (ht : t < cnt N) : (f_X6_columnHeight (R.1 (t + 5))).toInt64 = uprS N S t := by
  unfold f_X6_columnHeight
  rw [c_column g ht, c_tg g ht (by decide), upr_i32 g.1 g.2.1 ht]
theorem c_told (g : Good R N S) (ht : t < cnt N) : f_X3_toldBy R t = toldS N S t := by
  have h := g.1
  have hj := lgOf_lt h ht
  unfold f_X3_toldBy toldS
  rw [c_tg g ht (by decide), tg0 h ht, c_legAt hj]
  simp only [lt]
  rw [c_upr g ht, g.2.2.2.2.2.2.1 _ hj, (g.2.2.2.2.2.1 t ht).2, g.2.2.2.2.1.2.1, (g.2.2.2.2.1.2.2.2.2.1 _ hj).1]
theorem c_off (g : Good R N S) (ht : t < cnt N) : f_X3_wrongBy R t = offS N S t := by
  have h := g.1
  have hp := ptOf_lt h ht
  unfold f_X3_wrongBy offS
  rw [c_told g ht, lt_eq, c_tg g ht (by decide), tg1 h ht, c_press hp, lt_eq, g.2.2.2.2.1.2.2.2.1 _ hp]
theorem c_diff (g : Good R N S) {a b : Nat} (ha : a < cnt N) (hb : b < cnt N) : f_X3_differenceOf R a b = diffS N S a b := by
  have h := g.1
  have hj := lgOf_lt h ha
  unfold f_X3_differenceOf diffS
  rw [c_tg g ha (by decide), c_tg g hb (by decide)]
  by_cases hq : tg N a 0 = tg N b 0
  · rw [if_pos hq, if_pos hq]
    have u1 := upr_int h g.2.1 ha
    have u2 := upr_int h g.2.1 hb
    have m1 := men_int h ha
    have m2 := men_int h hb
    have v1 := c_upr g ha
    have v2 := c_upr g hb
    simp only [lt]
    rw [(g.2.2.2.2.2.1 b hb).2, (g.2.2.2.2.2.1 a ha).2, tg0 h ha, c_legAt hj, (g.2.2.2.2.1.2.2.2.2.1 _ hj).1]
    have e1 : (f_X6_columnHeight (R.1 (a + 5))).toInt = (uprS N S a).toInt := by rw [← v1, i32_ext]
    have e2 : (f_X6_columnHeight (R.1 (b + 5))).toInt = (uprS N S b).toInt := by rw [← v2, i32_ext]
    generalize f_X6_columnHeight (R.1 (a + 5)) = x at e1
    generalize f_X6_columnHeight (R.1 (b + 5)) = y at e2
    have w1 : (y - x).toInt = y.toInt - x.toInt := i32_sub (by omega)
    have w2 : ((y - x) - menS N b).toInt = y.toInt - x.toInt - (menS N b).toInt := by rw [i32_sub (by omega), w1]
    have w3 : (((y - x) - menS N b) + menS N a).toInt = y.toInt - x.toInt - (menS N b).toInt + (menS N a).toInt := by rw [i32_add (by omega), w2]
    have z1 : (uprS N S b - uprS N S a).toInt = (uprS N S b).toInt - (uprS N S a).toInt := i64_sub (by omega)
    have z2 : ((uprS N S b - uprS N S a) - (menS N b).toInt64).toInt = (uprS N S b).toInt - (uprS N S a).toInt - (menS N b).toInt := by rw [i64_sub (by rw [i32_ext]; omega), z1, i32_ext]
    have z3 : (((uprS N S b - uprS N S a) - (menS N b).toInt64) + (menS N a).toInt64).toInt = (uprS N S b).toInt - (uprS N S a).toInt - (menS N b).toInt + (menS N a).toInt := by rw [i64_add (by rw [i32_ext]; omega), z2, i32_ext]
    have e : (((y - x) - menS N b) + menS N a).toInt64 = ((uprS N S b - uprS N S a) - (menS N b).toInt64) + (menS N a).toInt64 := i64_eq (by rw [i32_ext, w3, z3, e1, e2])
    rw [e]
  · rw [if_neg hq, if_neg hq, c_told g ha, c_told g hb]
    rfl
end CVIEW
