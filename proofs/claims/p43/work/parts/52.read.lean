/-! READERS, the simple ones -/
def cS (N : Nat → Int32) (s : Int32) : Nat → Int32
  | 0 => 0
  | n + 1 => cS N s n + (if tg N n 6 = s then 1 else 0)
def lS (N : Nat → Int32) (s : Int32) : Nat → Int32
  | 0 => 0
  | n + 1 => lS N s n + (if tg N n 0 = s then 1 else 0)
theorem c_state {R : RowS} {N : Nat → Int32} {S : Nat → Int64} (h : wfN N) (r : Rel R N S) (s : Int32) {n : Nat} (hn : 12 < n) : f_X3_countInState n R s = some (cS N s (cnt N)) := by
  have hc := cnt_le h
  have key := wl_count (f := fun t : Int32 × Int32 => l_X3_countInState_4 R s t.1 t.2) (fun i => (cS N s i, nI i)) (cnt N) (cS N s (cnt N)) (fun i hi => by
    have h2 := r.2.2.2.2.2 i hi 6 (by decide)
    show l_X3_countInState_4 R s (cS N s i) (nI i) = _
    unfold l_X3_countInState_4 b_X3_countInState_30
    rw [r.2.2.1, n2 h, if_neg (by rw [nI_leI (by omega) (by omega)]; omega), c_tubeAt (show i < 12 by omega)]
    simp only [lt, h2, nI_1, cS]
    split <;> rfl) (by
    show l_X3_countInState_4 R s (cS N s (cnt N)) (nI (cnt N)) = _
    unfold l_X3_countInState_4
    rw [r.2.2.1, n2 h, if_pos (by rw [nI_leI (by omega) (by omega)]; omega)]) n (by omega)
  have e : wloop (fun t : Int32 × Int32 => l_X3_countInState_4 R s t.1 t.2) n (0, 0) = some (cS N s (cnt N)) := key
  unfold f_X3_countInState
  rw [e]
  rfl
theorem c_inleg {R : RowS} {N : Nat → Int32} {S : Nat → Int64} (h : wfN N) (r : Rel R N S) (s : Int32) {n : Nat} (hn : 12 < n) : f_X3_countInLeg n R s = some (lS N s (cnt N)) := by
  have hc := cnt_le h
  have key := wl_count (f := fun t : Int32 × Int32 => l_X3_countInLeg_4 R s t.1 t.2) (fun i => (lS N s i, nI i)) (cnt N) (lS N s (cnt N)) (fun i hi => by
    have h2 := r.2.2.2.2.2 i hi 0 (by decide)
    show l_X3_countInLeg_4 R s (lS N s i) (nI i) = _
    unfold l_X3_countInLeg_4 b_X3_countInLeg_30
    rw [r.2.2.1, n2 h, if_neg (by rw [nI_leI (by omega) (by omega)]; omega), c_tubeAt (show i < 12 by omega)]
    simp only [lt, h2, nI_1, lS]
    split <;> rfl) (by
    show l_X3_countInLeg_4 R s (lS N s (cnt N)) (nI (cnt N)) = _
    unfold l_X3_countInLeg_4
    rw [r.2.2.1, n2 h, if_pos (by rw [nI_leI (by omega) (by omega)]; omega)]) n (by omega)
  have e : wloop (fun t : Int32 × Int32 => l_X3_countInLeg_4 R s t.1 t.2) n (0, 0) = some (lS N s (cnt N)) := key
  unfold f_X3_countInLeg
  rw [e]
  rfl
theorem c_num0 {R : RowS} {t : Nat} (ht : t < 12) : f_X3_numberOf R (nI t) 0 = R.1 (t + 5) 0 := by
  unfold f_X3_numberOf
  rw [c_tubeAt ht]
  simp only [lt]
  rw [if_pos (by decide)]
theorem c_num1 {R : RowS} {t : Nat} (ht : t < 12) : f_X3_numberOf R (nI t) 1 = R.1 (t + 5) 1 := by
  unfold f_X3_numberOf
  rw [c_tubeAt ht]
  simp only [lt]
  rw [if_neg (by decide), if_pos (by decide)]
theorem c_num2 {R : RowS} {t : Nat} (ht : t < 12) : f_X3_numberOf R (nI t) 2 = R.1 (t + 5) 2 := by
  unfold f_X3_numberOf
  rw [c_tubeAt ht]
  simp only [lt]
  rw [if_neg (by decide), if_neg (by decide), if_pos (by decide)]
theorem c_num3 {R : RowS} {t : Nat} (ht : t < 12) : f_X3_numberOf R (nI t) 3 = R.1 (t + 5) 3 := by
  unfold f_X3_numberOf
  rw [c_tubeAt ht]
  simp only [lt]
  rw [if_neg (by decide), if_neg (by decide), if_neg (by decide), if_pos (by decide)]
theorem c_num4 {R : RowS} {t : Nat} (ht : t < 12) : f_X3_numberOf R (nI t) 4 = R.1 (t + 5) 4 := by
  unfold f_X3_numberOf
  rw [c_tubeAt ht]
  simp only [lt]
  rw [if_neg (by decide), if_neg (by decide), if_neg (by decide), if_neg (by decide), if_pos (by decide)]
theorem c_num5 {R : RowS} {t : Nat} (ht : t < 12) : f_X3_numberOf R (nI t) 5 = R.1 (t + 5) 5 := by
  unfold f_X3_numberOf
  rw [c_tubeAt ht]
  simp only [lt]
  rw [if_neg (by decide), if_neg (by decide), if_neg (by decide), if_neg (by decide), if_neg (by decide), if_pos (by decide)]
theorem c_num6 {R : RowS} {t : Nat} (ht : t < 12) : f_X3_numberOf R (nI t) 6 = R.1 (t + 5) 6 := by
  unfold f_X3_numberOf
  rw [c_tubeAt ht]
  simp only [lt]
  rw [if_neg (by decide), if_neg (by decide), if_neg (by decide), if_neg (by decide), if_neg (by decide), if_neg (by decide), if_pos (by decide)]
theorem c_num7 {R : RowS} {t : Nat} (ht : t < 12) : f_X3_numberOf R (nI t) 7 = R.1 (t + 5) 9 := by
  unfold f_X3_numberOf
  rw [c_tubeAt ht]
  simp only [lt]
  rw [if_neg (by decide), if_neg (by decide), if_neg (by decide), if_neg (by decide), if_neg (by decide), if_neg (by decide), if_neg (by decide), if_pos (by decide)]
theorem c_num8 {R : RowS} {t : Nat} (ht : t < 12) : f_X3_numberOf R (nI t) 8 = f_X6_shownReading (R.1 (t + 5)) := by
  unfold f_X3_numberOf
  rw [c_tubeAt ht]
  simp only [lt]
  rw [if_neg (by decide), if_neg (by decide), if_neg (by decide), if_neg (by decide), if_neg (by decide), if_neg (by decide), if_neg (by decide), if_neg (by decide), if_pos (by decide)]
theorem c_num9 {R : RowS} {t : Nat} (ht : t < 12) : f_X3_numberOf R (nI t) 9 = R.1 (t + 5) 7 := by
  unfold f_X3_numberOf
  rw [c_tubeAt ht]
  simp only [lt]
  rw [if_neg (by decide), if_neg (by decide), if_neg (by decide), if_neg (by decide), if_neg (by decide), if_neg (by decide), if_neg (by decide), if_neg (by decide), if_neg (by decide), if_pos (by decide)]
theorem c_num10 {R : RowS} {t : Nat} (ht : t < 12) : f_X3_numberOf R (nI t) 10 = R.1 (t + 5) 8 := by
  unfold f_X3_numberOf
  rw [c_tubeAt ht]
  simp only [lt]
  rw [if_neg (by decide), if_neg (by decide), if_neg (by decide), if_neg (by decide), if_neg (by decide), if_neg (by decide), if_neg (by decide), if_neg (by decide), if_neg (by decide), if_neg (by decide), if_pos (by decide)]
theorem c_num11 {R : RowS} {t : Nat} (ht : t < 12) : f_X3_numberOf R (nI t) 11 = nI t := by
  unfold f_X3_numberOf
  rw [c_tubeAt ht]
  simp only [lt]
  rw [if_neg (by decide), if_neg (by decide), if_neg (by decide), if_neg (by decide), if_neg (by decide), if_neg (by decide), if_neg (by decide), if_neg (by decide), if_neg (by decide), if_neg (by decide), if_neg (by decide), if_pos (by decide)]
theorem c_num12 {R : RowS} {t : Nat} (ht : t < 12) : f_X3_numberOf R (nI t) 12 = f_X3_pressureAt R (R.1 (t + 5) 1) := by
  unfold f_X3_numberOf
  rw [c_tubeAt ht]
  simp only [lt]
  rw [if_neg (by decide), if_neg (by decide), if_neg (by decide), if_neg (by decide), if_neg (by decide), if_neg (by decide), if_neg (by decide), if_neg (by decide), if_neg (by decide), if_neg (by decide), if_neg (by decide), if_neg (by decide), if_pos (by decide)]

