/-! VIEW: what is seen of a settled row -/
noncomputable def columnS (N : Nat → Int32) (S : Nat → Int64) (t : Nat) : Int32 := (colS N t (levS N S (lgOf N t))).toInt32
noncomputable def readS (N : Nat → Int32) (S : Nat → Int64) (t : Nat) : Int32 := (columnS N S t / 10) + tg N t 5
section BOUNDS
variable {N : Nat → Int32} {S : Nat → Int64} {t : Nat}
theorem i64_32 {x : Int64} (h : -2147483648 ≤ x.toInt ∧ x.toInt ≤ 2147483647) : x.toInt32.toInt = x.toInt := by
  rw [Int64.toInt_toInt32, Int.bmod_eq_of_le (by omega) (by omega)]
theorem column_int (h : wfN N) (hS : wfS N S) (ht : t < cnt N) : (columnS N S t).toInt = colZ N t (levS N S (lgOf N t)).toInt ∧ 0 ≤ (columnS N S t).toInt ∧ (columnS N S t).toInt ≤ (fullS N t).toInt := by
  have h1 := lev_bd2 h hS (lgOf_lt h ht)
  have h2 := col_int h ht (L := levS N S (lgOf N t)) (by omega)
  have h3 := col_bd h ht (levS N S (lgOf N t)).toInt
  have h4 := full_int h ht
  have e : (columnS N S t).toInt = colZ N t (levS N S (lgOf N t)).toInt := by
    unfold columnS
    rw [i64_32 (by omega), h2]
  omega
end BOUNDS
section CVIEW
variable {R : RowS} {N : Nat → Int32} {S : Nat → Int64} {t : Nat}
theorem c_tg (g : Good R N S) (ht : t < cnt N) {k : Nat} (hk : k < 7) : R.1 (t + 5) k = tg N t k := g.2.2.2.2.1.2.2.2.2.2 t ht k hk
theorem c_column (g : Good R N S) (ht : t < cnt N) : R.1 (t + 5) 9 = columnS N S t := g.2.2.2.2.2.2.2 t ht
theorem c_reading (g : Good R N S) (ht : t < cnt N) : f_X6_shownReading (R.1 (t + 5)) = readS N S t := by
  unfold f_X6_shownReading readS
  rw [c_column g ht, c_tg g ht (by decide)]
end CVIEW

