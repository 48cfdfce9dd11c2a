/-! LEVEL: the greatest one, on both sides -/
theorem xor_sg {a b : Int64} (hb : 0 ≤ b.toInt) : (0 ≤ a ^^^ b) ↔ 0 ≤ a.toInt := by
  have e0 : (0 : Int64).toInt = 0 := rfl
  have h1 : (a ^^^ b).toInt = (a.toBitVec ^^^ b.toBitVec).toInt := by rw [← Int64.toBitVec_xor]; rfl
  have hm : ∀ x : BitVec 64, 0 ≤ x.toInt ↔ x.msb = false := by
    intro x
    rw [BitVec.msb_eq_toInt, decide_eq_false_iff_not]
    omega
  have h2 : b.toBitVec.msb = false := (hm _).mp hb
  rw [i64_le, e0, h1, hm, BitVec.msb_xor, h2, Bool.xor_false, ← hm]
  rfl
theorem tdm_bd (a b : Int) : (a.tdiv b * b).natAbs ≤ a.natAbs := by
  rw [Int.natAbs_mul, Int.natAbs_tdiv]
  exact Nat.div_mul_le_self _ _
theorem fl_q {a b : Int} (hb : 0 < b) : a.tdiv b = a / b + (if 0 ≤ a ∨ b ∣ a then 0 else 1) := by
  rw [Int.tdiv_eq_ediv, Int.sign_eq_one_of_pos hb]
theorem c_floor {a b : Int64} (ha : -4000000000000000000 ≤ a.toInt ∧ a.toInt ≤ 4000000000000000000) (hb : 0 < b.toInt) : ∃ x, f_J9_floorDiv_f86c9 a b = some x ∧ x.toInt = a.toInt / b.toInt := by
  have e0 : (0 : Int64).toInt = 0 := rfl
  have e1 : (1 : Int64).toInt = 1 := rfl
  have hd : (a / b).toInt = a.toInt.tdiv b.toInt := i64_div (by omega)
  have hq := fl_q (a := a.toInt) hb
  have hbd := tdiv_bd (b := b.toInt) ha (by omega)
  have hmd := tdm_bd a.toInt b.toInt
  have hm : (a / b * b).toInt = a.toInt.tdiv b.toInt * b.toInt := by rw [i64_mul (by rw [hd]; omega), hd]
  unfold f_J9_floorDiv_f86c9
  rw [if_pos (fun q => by rw [q] at hb; omega), lt_eq]
  by_cases h1 : 0 ≤ a.toInt
  · rw [if_pos ((xor_sg (by omega)).mpr h1)]
    exact ⟨_, rfl, by rw [hd, hq, if_pos (Or.inl h1)]; omega⟩
  · rw [if_neg (fun q => h1 ((xor_sg (by omega)).mp q))]
    by_cases h2 : (a / b * b) = a
    · rw [if_pos h2]
      rw [h2] at hm
      exact ⟨_, rfl, by rw [hd, hq, if_pos (Or.inr ⟨_, by rw [Int.mul_comm]; exact hm⟩)]; omega⟩
    · rw [if_neg h2]
      have h3 : ¬ (0 ≤ a.toInt ∨ b.toInt ∣ a.toInt) := by
        rintro (q | q)
        · exact h1 q
        · exact h2 (i64_eq (by rw [hm, Int.tdiv_mul_cancel q]))
      rw [if_neg h3] at hq
      exact ⟨_, rfl, by rw [i64_sub (by rw [hd, e1]; omega), hd, e1]; omega⟩
def volS (N : Nat → Int32) (j : Nat) (L : Int64) : Nat → Int64
  | 0 => 0
  | n + 1 => if tg N n 0 = nI j then volS N j L n + cvol N n L else volS N j L n
def fwS (N : Nat → Int32) (j : Nat) : Nat → Int64
  | 0 => 0
  | n + 1 => if tg N n 0 = nI j then (if tg N n 6 = 0 then fwS N j n + fvol N n else fwS N j n) else fwS N j n
def faS (N : Nat → Int32) (j : Nat) : Nat → Int64
  | 0 => 0
  | n + 1 => if tg N n 0 = nI j then faS N j n + fvol N n else faS N j n
section LEVEL
variable {N : Nat → Int32} {S : Nat → Int64} {t : Nat}
theorem tg0_iff (h : wfN N) (ht : t < cnt N) {j : Nat} (hj : j < 2) : tg N t 0 = nI j ↔ lgOf N t = j := by
  have := lgOf_lt h ht
  rw [tg0 h ht, nI_eq (by omega) (by omega)]
theorem col_int (h : wfN N) (ht : t < cnt N) {L : Int64} (hL : -1000000000000 ≤ L.toInt ∧ L.toInt ≤ 1000000000000) : (colS N t L).toInt = colZ N t L.toInt := by
  have e0 : (0 : Int64).toInt = 0 := rfl
  have h1 := full_int h ht
  have h2 := run_int h ht hL
  unfold colS colZ
  by_cases h3 : tg N t 6 = 0
  · rw [if_pos h3, if_pos h3, col_alt (by rw [i32_ext]; omega)]
    simp only [i64_le, i32_ext, h2.1, e0]
    by_cases h4 : runZ N t L.toInt < 0
    · rw [if_neg (by omega), if_pos h4, e0]
    · rw [if_pos (by omega), if_neg h4]
      by_cases h5 : (fullS N t).toInt < runZ N t L.toInt
      · rw [if_neg (by omega), if_pos h5, i32_ext]
      · rw [if_pos (by omega), if_neg h5, h2.1]
  · rw [if_neg h3, if_neg h3, e0]
theorem bore_bd (h : wfN N) (ht : t < cnt N) : 1 ≤ (tg N t 2).toInt ∧ (tg N t 2).toInt ≤ 20 := (h.2.2.2.2.2 t ht).2.2.2.1
theorem cvol_int (h : wfN N) (ht : t < cnt N) {L : Int64} (hL : -1000000000000 ≤ L.toInt ∧ L.toInt ≤ 1000000000000) : (cvol N t L).toInt = colZ N t L.toInt * b2 N t ∧ 0 ≤ colZ N t L.toInt * b2 N t ∧ colZ N t L.toInt * b2 N t ≤ 80000000 := by
  have h1 := full_int h ht
  have h2 := col_bd h ht L.toInt
  have h3 := bore_bd h ht
  have h4 := mul_bd (a := colZ N t L.toInt) (b := (tg N t 2).toInt) (A := 200000) (B := 20) (by omega) (by omega)
  have h5 := mul_bd (a := colZ N t L.toInt * (tg N t 2).toInt) (b := (tg N t 2).toInt) (A := 4000000) (B := 20) (by omega) (by omega)
  have e1 : (colS N t L * (tg N t 2).toInt64).toInt = colZ N t L.toInt * (tg N t 2).toInt := by
    rw [i64_mul (by rw [col_int h ht hL, i32_ext]; omega), col_int h ht hL, i32_ext]
  have e2 : (cvol N t L).toInt = colZ N t L.toInt * b2 N t := by
    unfold cvol b2
    rw [i64_mul (by rw [e1, i32_ext]; omega), e1, i32_ext, Int.mul_assoc]
  have h6 := b2_bd h ht
  have h7 : 0 ≤ colZ N t L.toInt * b2 N t := Int.mul_nonneg h2.1 (by omega)
  refine ⟨e2, h7, ?_⟩
  unfold b2
  rw [← Int.mul_assoc]
  omega
theorem fvol_int (h : wfN N) (ht : t < cnt N) : (fvol N t).toInt = (fullS N t).toInt * b2 N t ∧ 0 ≤ (fvol N t).toInt ∧ (fvol N t).toInt ≤ 80000000 := by
  have h1 := full_int h ht
  have h3 := bore_bd h ht
  have h4 := mul_bd (a := (fullS N t).toInt) (b := (tg N t 2).toInt) (A := 200000) (B := 20) (by omega) (by omega)
  have h5 := mul_bd (a := (fullS N t).toInt * (tg N t 2).toInt) (b := (tg N t 2).toInt) (A := 4000000) (B := 20) (by omega) (by omega)
  have e1 : ((fullS N t).toInt64 * (tg N t 2).toInt64).toInt = (fullS N t).toInt * (tg N t 2).toInt := by
    rw [i64_mul (by rw [i32_ext, i32_ext]; omega), i32_ext, i32_ext]
  have e2 : (fvol N t).toInt = (fullS N t).toInt * b2 N t := by
    unfold fvol b2
    rw [i64_mul (by rw [e1, i32_ext]; omega), e1, i32_ext, Int.mul_assoc]
  have h6 := b2_bd h ht
  have h7 : 0 ≤ (fullS N t).toInt * b2 N t := Int.mul_nonneg (by omega) (by omega)
  refine ⟨e2, by omega, ?_⟩
  rw [e2]
  unfold b2
  rw [← Int.mul_assoc]
  omega
theorem vol_int (h : wfN N) {j : Nat} (hj : j < 2) {L : Int64} (hL : -1000000000000 ≤ L.toInt ∧ L.toInt ≤ 1000000000000) : ∀ n, n ≤ cnt N → (volS N j L n).toInt = volZ N j L.toInt n := by
  have hc := cnt_le h
  intro n
  induction n with
  | zero => intro _; rfl
  | succ n ih =>
    intro hn
    have h1 := ih (by omega)
    have h2 := vol_bd h j L.toInt n (by omega)
    have h3 := cvol_int h (t := n) (by omega) hL
    simp only [volS, volZ]
    by_cases h4 : tg N n 0 = nI j
    · rw [if_pos h4, if_pos ((tg0_iff h (by omega) hj).mp h4), i64_add (by rw [h1, h3.1]; omega), h1, h3.1]
    · rw [if_neg h4, if_neg (fun q => h4 ((tg0_iff h (by omega) hj).mpr q)), h1]; omega
theorem fa_int (h : wfN N) {j : Nat} (hj : j < 2) (x : Int) : ∀ n, n ≤ cnt N → volZ N j x n ≤ (faS N j n).toInt ∧ (faS N j n).toInt ≤ 80000000 * n := by
  have hc := cnt_le h
  have e0 : (0 : Int64).toInt = 0 := rfl
  intro n
  induction n with
  | zero => intro _; simp [volZ, faS]
  | succ n ih =>
    intro hn
    have h1 := ih (by omega)
    have h2 := vol_bd h j x n (by omega)
    have h3 := fvol_int h (t := n) (by omega)
    have h5 := col_bd h (t := n) (by omega) x
    have h6 := b2_bd h (t := n) (by omega)
    have h7 : colZ N n x * b2 N n ≤ (fullS N n).toInt * b2 N n := Int.mul_le_mul_of_nonneg_right h5.2 (by omega)
    simp only [faS, volZ]
    by_cases h4 : tg N n 0 = nI j
    · rw [if_pos h4, if_pos ((tg0_iff h (by omega) hj).mp h4), i64_add (by omega)]; omega
    · rw [if_neg h4, if_neg (fun q => h4 ((tg0_iff h (by omega) hj).mpr q))]; omega
theorem fw_int (h : wfN N) {j : Nat} (hj : j < 2) (x : Int) : ∀ n, n ≤ cnt N → volZ N j x n ≤ (fwS N j n).toInt ∧ (fwS N j n).toInt ≤ 80000000 * n := by
  have hc := cnt_le h
  have e0 : (0 : Int64).toInt = 0 := rfl
  intro n
  induction n with
  | zero => intro _; simp [volZ, fwS]
  | succ n ih =>
    intro hn
    have h1 := ih (by omega)
    have h2 := vol_bd h j x n (by omega)
    have h3 := fvol_int h (t := n) (by omega)
    have h5 := col_bd h (t := n) (by omega) x
    have h6 := b2_bd h (t := n) (by omega)
    have h7 : colZ N n x * b2 N n ≤ (fullS N n).toInt * b2 N n := Int.mul_le_mul_of_nonneg_right h5.2 (by omega)
    simp only [fwS, volZ]
    by_cases h4 : tg N n 0 = nI j
    · rw [if_pos h4, if_pos ((tg0_iff h (by omega) hj).mp h4)]
      by_cases h8 : tg N n 6 = 0
      · rw [if_pos h8, i64_add (by omega)]; omega
      · have h9 : colZ N n x = 0 := by unfold colZ; rw [if_neg h8]
        rw [if_neg h8, h9]; omega
    · rw [if_neg h4, if_neg (fun q => h4 ((tg0_iff h (by omega) hj).mpr q))]; omega
theorem area_bd (h : wfN N) {j : Nat} (hj : j < 2) : 100 ≤ (lg N j 1).toInt ∧ (lg N j 1).toInt ≤ 99999 := (h.2.2.2.2.1 j hj).2.1
theorem F_int (h : wfN N) {j : Nat} (hj : j < 2) {L : Int64} (hL : -4000000000 ≤ L.toInt ∧ L.toInt ≤ 4000000000) : ((lg N j 1).toInt64 * L + volS N j L (cnt N)).toInt = (lg N j 1).toInt * L.toInt + volZ N j L.toInt (cnt N) := by
  have h1 := area_bd h hj
  have h2 := vol_bd h j L.toInt (cnt N) (Nat.le_refl _)
  have h3 := vol_int h hj (L := L) (by omega) (cnt N) (Nat.le_refl _)
  have hc := cnt_le h
  have h4 := mul_bd (a := (lg N j 1).toInt) (b := L.toInt) (A := 99999) (B := 4000000000) (by omega) (by omega)
  have e1 : ((lg N j 1).toInt64 * L).toInt = (lg N j 1).toInt * L.toInt := by rw [i64_mul (by rw [i32_ext]; omega), i32_ext]
  rw [i64_add (by rw [e1, h3]; omega), e1, h3]
/-- where the search begins -/
theorem ends_ok (h : wfN N) (hS : wfS N S) {j : Nat} (hj : j < 2) {f lo hi : Int} (hf : ∀ x, volZ N j x (cnt N) ≤ f) (hf2 : f ≤ 960000000) (hlo : lo = ((S j).toInt - f) / (lg N j 1).toInt) (hhi : hi = (S j).toInt / (lg N j 1).toInt) : lo ≤ hi ∧ -2000000000 ≤ lo ∧ hi ≤ 2000000000 ∧ (lg N j 1).toInt * lo + volZ N j lo (cnt N) ≤ (S j).toInt ∧ (S j).toInt < (lg N j 1).toInt * (hi + 1) + volZ N j (hi + 1) (cnt N) := by
  have h1 := area_bd h hj
  have h2 := S_bd h hS hj
  have h3 := (vol_bd h j lo (cnt N) (Nat.le_refl _)).1
  have h4 := (vol_bd h j (hi + 1) (cnt N) (Nat.le_refl _)).1
  have h5 := hf lo
  have g1 : lo ≤ hi := by rw [hlo, hhi]; exact Int.ediv_le_ediv (by omega) (by omega)
  have g2 : -2000000000 ≤ lo := by rw [hlo]; exact Int.le_ediv_of_mul_le (by omega) (by omega)
  have g3 : hi < 2000000001 := by rw [hhi]; exact (Int.ediv_lt_iff_lt_mul (by omega)).mpr (by omega)
  have g4 : (lg N j 1).toInt * lo ≤ (S j).toInt - f := by rw [hlo]; exact Int.mul_ediv_self_le (by omega)
  have g5 : (S j).toInt < (lg N j 1).toInt * hi + (lg N j 1).toInt := by rw [hhi]; exact Int.lt_mul_ediv_self_add (by omega)
  have g6 : (lg N j 1).toInt * (hi + 1) = (lg N j 1).toInt * hi + (lg N j 1).toInt := by rw [Int.mul_add, Int.mul_one]
  refine ⟨g1, g2, by omega, by omega, by omega⟩
end LEVEL

