/-! SPEC: the row of gauges by the model's own cells: N its ints, S its longs -/
def cnt (N : Nat → Int32) : Nat := (N 2).toNatClampNeg
def tg (N : Nat → Int32) (t k : Nat) : Int32 := N (18 + 7 * t + k)
def lgOf (N : Nat → Int32) (t : Nat) : Nat := (tg N t 0).toNatClampNeg
def ptOf (N : Nat → Int32) (t : Nat) : Nat := (tg N t 1).toNatClampNeg
def lg (N : Nat → Int32) (j k : Nat) : Int32 := N (12 + 3 * j + k)
def pullS (N : Nat → Int32) (t : Nat) : Int32 := ((N 1 - N (4 + ptOf N t)) * 1000) / lg N (lgOf N t) 0
def menS (N : Nat → Int32) (t : Nat) : Int32 := lg N (lgOf N t) 2 / tg N t 2
def runS (N : Nat → Int32) (t : Nat) (L : Int64) : Int64 := (((L + (pullS N t).toInt64) + (menS N t).toInt64) * 1000) / (tg N t 3).toInt64
def fullS (N : Nat → Int32) (t : Nat) : Int32 := 100 * tg N t 4
def colS (N : Nat → Int32) (t : Nat) (L : Int64) : Int64 := if tg N t 6 = 0 then lmax 0 (lmin (fullS N t).toInt64 (runS N t L)) else 0
def cvol (N : Nat → Int32) (t : Nat) (L : Int64) : Int64 := (colS N t L * (tg N t 2).toInt64) * (tg N t 2).toInt64
def fvol (N : Nat → Int32) (t : Nat) : Int64 := ((fullS N t).toInt64 * (tg N t 2).toInt64) * (tg N t 2).toInt64
def bd (x : Int32) (a b : Int) : Prop := a ≤ x.toInt ∧ x.toInt ≤ b
/-- the ranges of a row -/
def wfN (N : Nat → Int32) : Prop :=
  bd (N 0) 2 8 ∧ bd (N 1) 0 99999 ∧ bd (N 2) 0 12 ∧ (∀ p, p < 8 → bd (N (4 + p)) 0 99999) ∧
  (∀ j, j < 2 → bd (lg N j 0) 100 20000 ∧ bd (lg N j 1) 100 99999 ∧ bd (lg N j 2) (-9999) 9999) ∧
  (∀ t, t < cnt N → bd (tg N t 0) 0 1 ∧ 0 ≤ (tg N t 1).toInt ∧ (tg N t 1).toInt < (N 0).toInt ∧ bd (tg N t 2) 1 20 ∧ bd (tg N t 3) 50 1000 ∧ bd (tg N t 4) 10 2000 ∧ bd (tg N t 5) (-9999) 9999 ∧ bd (tg N t 6) 0 2)
/-- minus this is the least level at which a tube of the leg can still rise -/
def lowL (N : Nat → Int32) (j : Nat) : Int := 99999000 / (lg N j 0).toInt + 9999
def wfS (N : Nat → Int32) (S : Nat → Int64) : Prop := ∀ j, j < 2 → -((lg N j 1).toInt * lowL N j) - 960000000 ≤ (S j).toInt ∧ (S j).toInt ≤ (S (4 + j)).toInt ∧ 0 ≤ (S (4 + j)).toInt ∧ (S (4 + j)).toInt ≤ 2000000000
theorem cnt_le {N : Nat → Int32} (h : wfN N) : cnt N ≤ 12 := by
  have := h.2.2.1
  have e : cnt N = (N 2).toInt.toNat := rfl
  unfold bd at this; omega
theorem cnt_int {N : Nat → Int32} (h : wfN N) : (N 2).toInt = (cnt N : Int) := by
  have := h.2.2.1
  have e : cnt N = (N 2).toInt.toNat := rfl
  unfold bd at this; omega
section SPECS
variable {N : Nat → Int32} {t : Nat}
theorem lgOf_lt (h : wfN N) (ht : t < cnt N) : lgOf N t < 2 := by
  have := (h.2.2.2.2.2 t ht).1
  have e : lgOf N t = (tg N t 0).toInt.toNat := rfl
  unfold bd at this; omega
theorem ptOf_lt (h : wfN N) (ht : t < cnt N) : ptOf N t < 8 := by
  have h1 := (h.2.2.2.2.2 t ht).2
  have h0 := h.1
  have e : ptOf N t = (tg N t 1).toInt.toNat := rfl
  unfold bd at h0; omega
theorem mul_bd {a b A B : Int} (ha : -A ≤ a ∧ a ≤ A) (hb : -B ≤ b ∧ b ≤ B) : -(A * B) ≤ a * b ∧ a * b ≤ A * B := by
  have h1 : (a * b).natAbs ≤ A.toNat * B.toNat := by
    rw [Int.natAbs_mul]
    exact Nat.mul_le_mul (by omega) (by omega)
  have hA : 0 ≤ A := by omega
  have hB : 0 ≤ B := by omega
  have h2 : ((A.toNat * B.toNat : Nat) : Int) = A * B := by
    rw [Int.natCast_mul, Int.toNat_of_nonneg hA, Int.toNat_of_nonneg hB]
  omega
theorem pull_int (h : wfN N) (ht : t < cnt N) : (pullS N t).toInt = (((N 1).toInt - (N (4 + ptOf N t)).toInt) * 1000).tdiv (lg N (lgOf N t) 0).toInt ∧ -99999000 ≤ (pullS N t).toInt ∧ (pullS N t).toInt ≤ 99999000 := by
  have h1 := h.2.1
  have h2 := h.2.2.2.1 _ (ptOf_lt h ht)
  unfold bd at h1 h2
  have e1 : (1000 : Int32).toInt = 1000 := rfl
  have e2 : (N 1 - N (4 + ptOf N t)).toInt = (N 1).toInt - (N (4 + ptOf N t)).toInt := i32_sub (by omega)
  have e3 : ((N 1 - N (4 + ptOf N t)) * 1000).toInt = ((N 1).toInt - (N (4 + ptOf N t)).toInt) * 1000 := by
    rw [i32_mul (by rw [e2, e1]; omega), e2, e1]
  have e4 : (pullS N t).toInt = (((N 1).toInt - (N (4 + ptOf N t)).toInt) * 1000).tdiv (lg N (lgOf N t) 0).toInt := by
    unfold pullS
    rw [i32_div (by rw [e3]; omega), e3]
  have := tdiv_bd (a := ((N 1).toInt - (N (4 + ptOf N t)).toInt) * 1000) (b := (lg N (lgOf N t) 0).toInt) (B := 99999000) (by omega) (by omega)
  rw [← e4] at this
  exact ⟨e4, this⟩
theorem men_int (h : wfN N) (ht : t < cnt N) : (menS N t).toInt = (lg N (lgOf N t) 2).toInt.tdiv (tg N t 2).toInt ∧ -9999 ≤ (menS N t).toInt ∧ (menS N t).toInt ≤ 9999 := by
  have h1 := (h.2.2.2.2.1 _ (lgOf_lt h ht)).2.2
  unfold bd at h1
  have e4 : (menS N t).toInt = (lg N (lgOf N t) 2).toInt.tdiv (tg N t 2).toInt := by
    unfold menS
    rw [i32_div (by omega)]
  have := tdiv_bd (a := (lg N (lgOf N t) 2).toInt) (b := (tg N t 2).toInt) (B := 9999) (by omega) (by omega)
  rw [← e4] at this
  exact ⟨e4, this⟩
theorem full_int (h : wfN N) (ht : t < cnt N) : (fullS N t).toInt = 100 * (tg N t 4).toInt ∧ 1000 ≤ (fullS N t).toInt ∧ (fullS N t).toInt ≤ 200000 := by
  have h1 := (h.2.2.2.2.2 t ht).2.2.2.2.2.1
  unfold bd at h1
  have e1 : (100 : Int32).toInt = 100 := rfl
  have e4 : (fullS N t).toInt = 100 * (tg N t 4).toInt := by
    unfold fullS
    rw [i32_mul (by rw [e1]; omega), e1]
  omega
/-- a run at a level, in whole numbers -/
def runZ (N : Nat → Int32) (t : Nat) (x : Int) : Int := ((x + (pullS N t).toInt + (menS N t).toInt) * 1000).tdiv (tg N t 3).toInt
def colZ (N : Nat → Int32) (t : Nat) (x : Int) : Int := if tg N t 6 = 0 then (if runZ N t x < 0 then 0 else if (fullS N t).toInt < runZ N t x then (fullS N t).toInt else runZ N t x) else 0
def b2 (N : Nat → Int32) (t : Nat) : Int := (tg N t 2).toInt * (tg N t 2).toInt
def volZ (N : Nat → Int32) (j : Nat) (x : Int) : Nat → Int
  | 0 => 0
  | n + 1 => volZ N j x n + (if lgOf N n = j then colZ N n x * b2 N n else 0)
theorem run_int (h : wfN N) (ht : t < cnt N) {L : Int64} (hL : -1000000000000 ≤ L.toInt ∧ L.toInt ≤ 1000000000000) : (runS N t L).toInt = runZ N t L.toInt ∧ -1000200000000000 ≤ runZ N t L.toInt ∧ runZ N t L.toInt ≤ 1000200000000000 := by
  have h1 := pull_int h ht
  have h2 := men_int h ht
  have e0 : (1000 : Int64).toInt = 1000 := rfl
  have e1 : (L + (pullS N t).toInt64).toInt = L.toInt + (pullS N t).toInt := by rw [i64_add (by rw [i32_ext]; omega), i32_ext]
  have e2 : ((L + (pullS N t).toInt64) + (menS N t).toInt64).toInt = L.toInt + (pullS N t).toInt + (menS N t).toInt := by rw [i64_add (by rw [i32_ext, e1]; omega), i32_ext, e1]
  have e3 : (((L + (pullS N t).toInt64) + (menS N t).toInt64) * 1000).toInt = (L.toInt + (pullS N t).toInt + (menS N t).toInt) * 1000 := by rw [i64_mul (by rw [e2, e0]; omega), e2, e0]
  have e4 : (runS N t L).toInt = runZ N t L.toInt := by
    unfold runS runZ
    rw [i64_div (by rw [e3]; omega), e3, i32_ext]
  refine ⟨e4, ?_⟩
  exact tdiv_bd (B := 1000200000000000) (by omega) (by omega)
theorem run_mono (h : wfN N) (ht : t < cnt N) {x y : Int} (hxy : x ≤ y) : runZ N t x ≤ runZ N t y := by
  have h1 := (h.2.2.2.2.2 t ht).2.2.2.2.1
  unfold bd at h1
  unfold runZ
  exact Int.tdiv_le_tdiv (by omega) (by omega)
theorem col_bd (h : wfN N) (ht : t < cnt N) (x : Int) : 0 ≤ colZ N t x ∧ colZ N t x ≤ (fullS N t).toInt := by
  have := full_int h ht
  unfold colZ
  split
  · split
    · omega
    · split <;> omega
  · omega
theorem col_mono (h : wfN N) (ht : t < cnt N) {x y : Int} (hxy : x ≤ y) : colZ N t x ≤ colZ N t y := by
  have h0 := full_int h ht
  have h1 := run_mono h ht hxy
  unfold colZ
  split
  · split <;> split <;> (try split) <;> (try split) <;> omega
  · omega
theorem b2_bd (h : wfN N) (ht : t < cnt N) : 1 ≤ b2 N t ∧ b2 N t ≤ 400 := by
  have h1 := (h.2.2.2.2.2 t ht).2.2.2.1
  unfold bd at h1
  unfold b2
  have h2 : (tg N t 2).toInt * 1 ≤ (tg N t 2).toInt * (tg N t 2).toInt := Int.mul_le_mul_of_nonneg_left (by omega) (by omega)
  have h3 := mul_bd (a := (tg N t 2).toInt) (b := (tg N t 2).toInt) (A := 20) (B := 20) (by omega) (by omega)
  omega
theorem vol_mono (h : wfN N) (j : Nat) {x y : Int} (hxy : x ≤ y) : ∀ n, n ≤ cnt N → volZ N j x n ≤ volZ N j y n := by
  intro n
  induction n with
  | zero => intro _; exact Int.le_refl _
  | succ n ih =>
    intro hn
    have h1 := ih (by omega)
    have h2 := col_mono h (t := n) (by omega) hxy
    have h3 := b2_bd h (t := n) (by omega)
    have h4 : colZ N n x * b2 N n ≤ colZ N n y * b2 N n := Int.mul_le_mul_of_nonneg_right h2 (by omega)
    simp only [volZ]
    split <;> omega
theorem vol_bd (h : wfN N) (j : Nat) (x : Int) : ∀ n, n ≤ cnt N → 0 ≤ volZ N j x n ∧ volZ N j x n ≤ 80000000 * n := by
  intro n
  induction n with
  | zero => intro _; simp [volZ]
  | succ n ih =>
    intro hn
    have h1 := ih (by omega)
    have h2 := col_bd h (t := n) (by omega) x
    have h0 := full_int h (t := n) (by omega)
    have h3 := b2_bd h (t := n) (by omega)
    have h4 := mul_bd (a := colZ N n x) (b := b2 N n) (A := 200000) (B := 400) (by omega) (by omega)
    have h5 : 0 ≤ colZ N n x * b2 N n := Int.mul_nonneg h2.1 (by omega)
    simp only [volZ]
    split <;> omega
/-- the greatest level that the stock allows -/
def IsLev (N : Nat → Int32) (S : Nat → Int64) (j : Nat) (x : Int) : Prop :=
  (lg N j 1).toInt * x + volZ N j x (cnt N) ≤ (S j).toInt ∧ (S j).toInt < (lg N j 1).toInt * (x + 1) + volZ N j (x + 1) (cnt N)
theorem lev_le (h : wfN N) {S : Nat → Int64} {j : Nat} (hj : j < 2) {x y : Int} (hx : (S j).toInt < (lg N j 1).toInt * (x + 1) + volZ N j (x + 1) (cnt N)) (hy : (lg N j 1).toInt * y + volZ N j y (cnt N) ≤ (S j).toInt) : y ≤ x := by
  by_cases hc : y ≤ x
  · exact hc
  · have h1 := (h.2.2.2.2.1 j hj).2.1
    unfold bd at h1
    have h2 : (lg N j 1).toInt * (x + 1) ≤ (lg N j 1).toInt * y := Int.mul_le_mul_of_nonneg_left (by omega) (by omega)
    have h3 := vol_mono h j (x := x + 1) (y := y) (by omega) (cnt N) (Nat.le_refl _)
    omega
theorem lev_unique (h : wfN N) {S : Nat → Int64} {j : Nat} (hj : j < 2) {x y : Int} (hx : IsLev N S j x) (hy : IsLev N S j y) : x = y := by
  have h1 := lev_le h hj hx.2 hy.1
  have h2 := lev_le h hj hy.2 hx.1
  omega
theorem lowL_bd (h : wfN N) {j : Nat} (hj : j < 2) : 9999 ≤ lowL N j ∧ lowL N j ≤ 1009989 ∧ (lowL N j - 9999) * (lg N j 0).toInt ≤ 99999000 := by
  have h1 := (h.2.2.2.2.1 j hj).1
  unfold bd at h1
  have h2 : (99999000 : Int) / (lg N j 0).toInt * (lg N j 0).toInt ≤ 99999000 := Int.ediv_mul_le _ (by omega)
  have h3 : 0 ≤ (99999000 : Int) / (lg N j 0).toInt := Int.ediv_nonneg (by omega) (by omega)
  have h4 : (99999000 : Int) / (lg N j 0).toInt * 100 ≤ 99999000 / (lg N j 0).toInt * (lg N j 0).toInt := Int.mul_le_mul_of_nonneg_left h1.1 h3
  have e : lowL N j - 9999 = 99999000 / (lg N j 0).toInt := by unfold lowL; omega
  rw [e]
  unfold lowL
  omega
theorem pull_lo (h : wfN N) (ht : t < cnt N) : (pullS N t).toInt ≤ lowL N (lgOf N t) - 9999 ∧ -(lowL N (lgOf N t) - 9999) ≤ (pullS N t).toInt := by
  have h1 := h.2.1
  have h2 := h.2.2.2.1 _ (ptOf_lt h ht)
  have h3 := (h.2.2.2.2.1 _ (lgOf_lt h ht)).1
  unfold bd at h1 h2 h3
  have e1 := (pull_int h ht).1
  have e2 : (pullS N t).toInt.natAbs ≤ 99999000 / (lg N (lgOf N t) 0).toInt.toNat := by
    rw [e1, Int.natAbs_tdiv]
    have e3 : (lg N (lgOf N t) 0).toInt.natAbs = (lg N (lgOf N t) 0).toInt.toNat := by omega
    rw [e3]
    exact Nat.div_le_div_right (by omega)
  have e4 : ((99999000 / (lg N (lgOf N t) 0).toInt.toNat : Nat) : Int) = 99999000 / (lg N (lgOf N t) 0).toInt := by
    have : (((lg N (lgOf N t) 0).toInt.toNat : Nat) : Int) = (lg N (lgOf N t) 0).toInt := Int.toNat_of_nonneg (by omega)
    conv => rhs; rw [← this]
    rfl
  unfold lowL
  omega
theorem S_bd (h : wfN N) {S : Nat → Int64} (hS : wfS N S) {j : Nat} (hj : j < 2) : -102000000000 ≤ (S j).toInt ∧ (S j).toInt ≤ 2000000000 := by
  have h1 := (h.2.2.2.2.1 j hj).2.1
  have h2 := lowL_bd h hj
  have h3 := hS j hj
  unfold bd at h1
  have h4 := mul_bd (a := (lg N j 1).toInt) (b := lowL N j) (A := 99999) (B := 1009989) (by omega) (by omega)
  omega
theorem lev_bd (h : wfN N) {S : Nat → Int64} (hS : wfS N S) {j : Nat} (hj : j < 2) {x : Int} (hx : IsLev N S j x) : -lowL N j - 19300000 ≤ x ∧ x ≤ 20000000 := by
  have h1 := (h.2.2.2.2.1 j hj).2.1
  have h2 := hS j hj
  have h3 := vol_bd h j x (cnt N) (Nat.le_refl _)
  have h4 := vol_bd h j (x + 1) (cnt N) (Nat.le_refl _)
  have h5 := cnt_le h
  unfold bd at h1
  obtain ⟨g1, g2⟩ := hx
  constructor
  · by_cases hc : -lowL N j - 19300000 ≤ x
    · exact hc
    · have e1 : (lg N j 1).toInt * (x + 1) ≤ (lg N j 1).toInt * (-lowL N j - 19300000) := Int.mul_le_mul_of_nonneg_left (by omega) (by omega)
      have e2 : (lg N j 1).toInt * (-lowL N j - 19300000) = -((lg N j 1).toInt * lowL N j) - (lg N j 1).toInt * 19300000 := by
        rw [Int.mul_sub, Int.mul_neg]
      omega
  · by_cases hc : x ≤ 20000000
    · exact hc
    · have : 100 * x ≤ (lg N j 1).toInt * x := Int.mul_le_mul_of_nonneg_right h1.1 (by omega)
      omega
end SPECS

