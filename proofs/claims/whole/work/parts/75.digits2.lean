/-! FORMAT 2: the model's digits, sizes, both together -/
def wrM (M : RowS) (m E : Nat) (f : Nat → Int32) : RowS := si (va_up M.1 21 (fun k => if m ≤ k ∧ k < E then f k else M.1 21 k), M.2) 0 22 (nI E)
theorem wm_0 {M : RowS} {m : Nat} {f : Nat → Int32} (h : M.1 0 22 = nI m) : wrM M m m f = M := by
  unfold wrM
  have e : (fun k => if m ≤ k ∧ k < m then f k else M.1 21 k) = M.1 21 := by funext k; rw [if_neg (by omega)]
  rw [e, up_self]
  unfold si
  rw [← h, up_self, up_self]
theorem wm_22 {M : RowS} {m E : Nat} {f : Nat → Int32} : (wrM M m E f).1 0 22 = nI E := by unfold wrM; exact si_at
theorem wm_21 {M : RowS} {m E : Nat} {f : Nat → Int32} (k : Nat) : (wrM M m E f).1 21 k = if m ≤ k ∧ k < E then f k else M.1 21 k := by
  unfold wrM
  rw [si_ne (Or.inl (by decide))]
  simp only [va_up_self]
theorem wm_c {M : RowS} {m E c : Nat} {f : Nat → Int32} (h0 : c ≠ 0) (h : c ≠ 21) : (wrM M m E f).1 c = M.1 c := by
  unfold wrM si
  simp only [va_up_ne _ _ h0, va_up_ne _ _ h]
theorem wm_k {M : RowS} {m E k : Nat} {f : Nat → Int32} (h : k ≠ 22) : (wrM M m E f).1 0 k = M.1 0 k := by
  unfold wrM
  rw [si_ne (Or.inr h)]
  simp only [va_up_ne _ _ (show 0 ≠ 21 by decide)]
theorem wm_s {M : RowS} {m i : Nat} {f : Nat → Int32} {v : Int32} (hm : m ≤ i) (hi : i < 40) (hv : f i = v) : f_X8_writes (wrM M m i f) v = some (wrM M m (i + 1) f) := by
  unfold f_X8_writes
  rw [wm_22, if_pos (by rw [nI_toInt (by omega)]; omega), nI_clamp (by omega), lt_eq]
  have e : (si (wrM M m i f) 21 i v).1 0 22 = nI i := by rw [si_ne (Or.inl (by decide))]; exact wm_22
  rw [e, nI_1, lt_eq]
  congr 1
  unfold wrM si
  simp only [up_up, va_up_self, va_up_ne _ _ (show (21 : Nat) ≠ 0 by decide), va_up_ne _ _ (show (0 : Nat) ≠ 21 by decide)]
  congr 1
  funext c
  unfold va_up
  by_cases h0 : c = 0
  · subst h0
    rfl
  · rw [if_neg h0]
    by_cases h21 : c = 21
    · subst h21
      rw [if_pos rfl, if_neg (by decide), if_pos rfl]
      funext k
      show (if k = i then v else if m ≤ k ∧ k < i then f k else M.1 21 k) = if m ≤ k ∧ k < i + 1 then f k else M.1 21 k
      by_cases q : k = i
      · subst q; rw [if_pos rfl, if_pos (by omega), hv]
      · rw [if_neg q]
        by_cases q2 : m ≤ k ∧ k < i
        · rw [if_pos q2, if_pos (by omega)]
        · rw [if_neg q2, if_neg (by omega)]
    · simp only [if_neg h21, if_neg h0]
theorem nw_1 {n b : Nat} (hn : n < 1000000) (hb : 0 < b) (hb2 : b < 1000000) (h : n / b ≤ 9) : l_X8_writesNumber_2 (nI n) (nI b) = some (.inr (nI b)) := by
  have : n / b ≤ n := Nat.div_le_self _ _
  unfold l_X8_writesNumber_2
  rw [if_pos (nI_ne0 hb (by omega)), pk_div (by omega) hb (by omega), show (9 : Int32) = nI 9 from rfl, if_pos (by rw [nI_leI (by omega) (by omega)]; exact h)]
theorem nw_2 {n b : Nat} (hn : n < 1000000) (hb : 0 < b) (hb2 : b < 1000000) (h : ¬ n / b ≤ 9) : l_X8_writesNumber_2 (nI n) (nI b) = some (.inl (nI (b * 10))) := by
  have : n / b ≤ n := Nat.div_le_self _ _
  unfold l_X8_writesNumber_2
  rw [if_pos (nI_ne0 hb (by omega)), pk_div (by omega) hb (by omega), show (9 : Int32) = nI 9 from rfl, if_neg (by rw [nI_leI (by omega) (by omega)]; exact h), show (10 : Int32) = nI 10 from rfl, pk_mul, lt_eq]
theorem nw_3 {n b m i : Nat} {M : RowS} {f : Nat → Int32} (hn : n < 1000000) (hb : 0 < b) (hb2 : b < 1000000) (hm : m ≤ i) (hi : i < 40) (hf : f i = nI (48 + n / b % 10)) : l_X8_writesNumber_18 (nI n) (nI b) (wrM M m i f) = some (.inl (nI (b / 10), wrM M m (i + 1) f)) := by
  have : n / b ≤ n := Nat.div_le_self _ _
  unfold l_X8_writesNumber_18
  rw [if_neg (nI_nle hb (by omega)), if_pos (nI_ne0 hb (by omega)), pk_div (by omega) hb (by omega), show (10 : Int32) = nI 10 from rfl, pk_rem (by omega) (by decide) (by decide), show (48 : Int32) = nI 48 from rfl, nI_add, wm_s hm hi hf, ob_some, lt_eq, pk_div (by omega) (by decide) (by decide), lt_eq]
theorem nw_4 {n : Nat} {M : RowS} : l_X8_writesNumber_18 (nI n) (nI 0) M = some (.inr M) := by
  unfold l_X8_writesNumber_18
  rw [if_pos (by decide)]
theorem ss_go {n p i : Nat} {d : Int32} (hn : n < 100000) (hp : p < 100000) (hi : i < 10) (h : p ≤ n) : l_J6_stringSize_0f7a4_16 (-nI n) d (-nI p) (nI i) = some (.inl (-nI (10 * p), nI (i + 1))) := by
  have e : (10 : Int32) * (-nI p) = -nI (10 * p) := by
    apply i32_eq
    rw [i32_mul (by rw [ng_int (by omega), show (10 : Int32).toInt = 10 from rfl]; omega), ng_int (by omega), ng_int (by omega), show (10 : Int32).toInt = 10 from rfl]
    omega
  unfold l_J6_stringSize_0f7a4_16
  rw [show (10 : Int32) = nI 10 from rfl, if_neg (by rw [nI_leI (by omega) (by omega)]; omega), if_pos (by rw [i32_le, ng_int (by omega), ng_int (by omega)]; omega), lt_eq, show nI 10 = (10 : Int32) from rfl, e, nI_1, lt_eq]
theorem ss_end {n p i : Nat} {d : Int32} (hn : n < 100000) (hp : p < 1000000) (hi : i < 10) (h : n < p) : l_J6_stringSize_0f7a4_16 (-nI n) d (-nI p) (nI i) = some (.inr (.inr (nI i + d))) := by
  unfold l_J6_stringSize_0f7a4_16
  rw [show (10 : Int32) = nI 10 from rfl, if_neg (by rw [nI_leI (by omega) (by omega)]; omega), if_neg (by rw [i32_le, ng_int (by omega), ng_int (by omega)]; omega)]
theorem ss_1 {n : Nat} {d : Int32} (h1 : 0 ≤ n) (h2 : n < 10) : b_J6_stringSize_0f7a4_11 200 (-nI n) d = some (nI 1 + d) := by
  have e : wloop (fun t : Int32 × Int32 => l_J6_stringSize_0f7a4_16 (-nI n) d t.1 t.2) 200 (-10, 1) = some (.inr (nI 1 + d)) := by
    exact wl_en (s := (-nI 10, nI 1)) (n := 199) (ss_end (by omega) (by omega) (by omega) (by omega))
  unfold b_J6_stringSize_0f7a4_11
  rw [e]
  rfl
theorem nw_1_ {n m : Nat} {M : RowS} (h1 : 0 ≤ n) (h2 : n < 10) (hm : m + 1 ≤ 40) (h : M.1 0 22 = nI m) : f_X8_writesNumber 200 M (nI n) = some (wrM M m (m + 1) (dgs n (m + 1))) := by
  have e1 : wloop (fun t : Int32 => l_X8_writesNumber_2 (nI n) t) 200 1 = some (nI 1) := by
    exact wl_en (n := 199) (s := nI 1) (nw_1 (by omega) (by omega) (by omega) (by omega))
  have e2 : wloop (fun t : Int32 × RowS => l_X8_writesNumber_18 (nI n) t.1 t.2) 200 (nI 1, wrM M m m (dgs n (m + 1))) = some (wrM M m (m + 1) (dgs n (m + 1))) := by
    refine (wl_st (f := fun t : Int32 × RowS => l_X8_writesNumber_18 (nI n) t.1 t.2) (n := 199) (s := (nI 1, wrM M m (m + 0) (dgs n (m + 1)))) (nw_3 (by omega) (by omega) (by omega) (by omega) (by omega) (dg_at (x := 0) (by omega) (by congr 1 <;> omega)))).trans ?_
    exact wl_en (n := 198) (s := (nI 0, wrM M m (m + 1) (dgs n (m + 1)))) nw_4
  rw [wm_0 h] at e2
  unfold f_X8_writesNumber
  rw [e1, ob_some]
  unfold b_X8_writesNumber_18
  rw [e2]
  rfl
theorem ss_2 {n : Nat} {d : Int32} (h1 : 10 ≤ n) (h2 : n < 100) : b_J6_stringSize_0f7a4_11 200 (-nI n) d = some (nI 2 + d) := by
  have e : wloop (fun t : Int32 × Int32 => l_J6_stringSize_0f7a4_16 (-nI n) d t.1 t.2) 200 (-10, 1) = some (.inr (nI 2 + d)) := by
    refine (wl_st (f := fun t : Int32 × Int32 => l_J6_stringSize_0f7a4_16 (-nI n) d t.1 t.2) (n := 199) (s := (-nI 10, nI 1)) (ss_go (by omega) (by omega) (by omega) (by omega))).trans ?_
    exact wl_en (s := (-nI 100, nI 2)) (n := 198) (ss_end (by omega) (by omega) (by omega) (by omega))
  unfold b_J6_stringSize_0f7a4_11
  rw [e]
  rfl
theorem nw_2_ {n m : Nat} {M : RowS} (h1 : 10 ≤ n) (h2 : n < 100) (hm : m + 2 ≤ 40) (h : M.1 0 22 = nI m) : f_X8_writesNumber 200 M (nI n) = some (wrM M m (m + 2) (dgs n (m + 2))) := by
  have e1 : wloop (fun t : Int32 => l_X8_writesNumber_2 (nI n) t) 200 1 = some (nI 10) := by
    refine (wl_st (f := fun t : Int32 => l_X8_writesNumber_2 (nI n) t) (n := 199) (s := nI 1) (nw_2 (by omega) (by omega) (by omega) (by omega))).trans ?_
    exact wl_en (n := 198) (s := nI 10) (nw_1 (by omega) (by omega) (by omega) (by omega))
  have e2 : wloop (fun t : Int32 × RowS => l_X8_writesNumber_18 (nI n) t.1 t.2) 200 (nI 10, wrM M m m (dgs n (m + 2))) = some (wrM M m (m + 2) (dgs n (m + 2))) := by
    refine (wl_st (f := fun t : Int32 × RowS => l_X8_writesNumber_18 (nI n) t.1 t.2) (n := 199) (s := (nI 10, wrM M m (m + 0) (dgs n (m + 2)))) (nw_3 (by omega) (by omega) (by omega) (by omega) (by omega) (dg_at (x := 1) (by omega) (by congr 1 <;> omega)))).trans ?_
    refine (wl_st (f := fun t : Int32 × RowS => l_X8_writesNumber_18 (nI n) t.1 t.2) (n := 198) (s := (nI 1, wrM M m (m + 1) (dgs n (m + 2)))) (nw_3 (by omega) (by omega) (by omega) (by omega) (by omega) (dg_at (x := 0) (by omega) (by congr 1 <;> omega)))).trans ?_
    exact wl_en (n := 197) (s := (nI 0, wrM M m (m + 2) (dgs n (m + 2)))) nw_4
  rw [wm_0 h] at e2
  unfold f_X8_writesNumber
  rw [e1, ob_some]
  unfold b_X8_writesNumber_18
  rw [e2]
  rfl
theorem ss_3 {n : Nat} {d : Int32} (h1 : 100 ≤ n) (h2 : n < 1000) : b_J6_stringSize_0f7a4_11 200 (-nI n) d = some (nI 3 + d) := by
  have e : wloop (fun t : Int32 × Int32 => l_J6_stringSize_0f7a4_16 (-nI n) d t.1 t.2) 200 (-10, 1) = some (.inr (nI 3 + d)) := by
    refine (wl_st (f := fun t : Int32 × Int32 => l_J6_stringSize_0f7a4_16 (-nI n) d t.1 t.2) (n := 199) (s := (-nI 10, nI 1)) (ss_go (by omega) (by omega) (by omega) (by omega))).trans ?_
    refine (wl_st (f := fun t : Int32 × Int32 => l_J6_stringSize_0f7a4_16 (-nI n) d t.1 t.2) (n := 198) (s := (-nI 100, nI 2)) (ss_go (by omega) (by omega) (by omega) (by omega))).trans ?_
    exact wl_en (s := (-nI 1000, nI 3)) (n := 197) (ss_end (by omega) (by omega) (by omega) (by omega))
  unfold b_J6_stringSize_0f7a4_11
  rw [e]
  rfl
theorem nw_3_ {n m : Nat} {M : RowS} (h1 : 100 ≤ n) (h2 : n < 1000) (hm : m + 3 ≤ 40) (h : M.1 0 22 = nI m) : f_X8_writesNumber 200 M (nI n) = some (wrM M m (m + 3) (dgs n (m + 3))) := by
  have e1 : wloop (fun t : Int32 => l_X8_writesNumber_2 (nI n) t) 200 1 = some (nI 100) := by
    refine (wl_st (f := fun t : Int32 => l_X8_writesNumber_2 (nI n) t) (n := 199) (s := nI 1) (nw_2 (by omega) (by omega) (by omega) (by omega))).trans ?_
    refine (wl_st (f := fun t : Int32 => l_X8_writesNumber_2 (nI n) t) (n := 198) (s := nI 10) (nw_2 (by omega) (by omega) (by omega) (by omega))).trans ?_
    exact wl_en (n := 197) (s := nI 100) (nw_1 (by omega) (by omega) (by omega) (by omega))
  have e2 : wloop (fun t : Int32 × RowS => l_X8_writesNumber_18 (nI n) t.1 t.2) 200 (nI 100, wrM M m m (dgs n (m + 3))) = some (wrM M m (m + 3) (dgs n (m + 3))) := by
    refine (wl_st (f := fun t : Int32 × RowS => l_X8_writesNumber_18 (nI n) t.1 t.2) (n := 199) (s := (nI 100, wrM M m (m + 0) (dgs n (m + 3)))) (nw_3 (by omega) (by omega) (by omega) (by omega) (by omega) (dg_at (x := 2) (by omega) (by congr 1 <;> omega)))).trans ?_
    refine (wl_st (f := fun t : Int32 × RowS => l_X8_writesNumber_18 (nI n) t.1 t.2) (n := 198) (s := (nI 10, wrM M m (m + 1) (dgs n (m + 3)))) (nw_3 (by omega) (by omega) (by omega) (by omega) (by omega) (dg_at (x := 1) (by omega) (by congr 1 <;> omega)))).trans ?_
    refine (wl_st (f := fun t : Int32 × RowS => l_X8_writesNumber_18 (nI n) t.1 t.2) (n := 197) (s := (nI 1, wrM M m (m + 2) (dgs n (m + 3)))) (nw_3 (by omega) (by omega) (by omega) (by omega) (by omega) (dg_at (x := 0) (by omega) (by congr 1 <;> omega)))).trans ?_
    exact wl_en (n := 196) (s := (nI 0, wrM M m (m + 3) (dgs n (m + 3)))) nw_4
  rw [wm_0 h] at e2
  unfold f_X8_writesNumber
  rw [e1, ob_some]
  unfold b_X8_writesNumber_18
  rw [e2]
  rfl
theorem ss_4 {n : Nat} {d : Int32} (h1 : 1000 ≤ n) (h2 : n < 10000) : b_J6_stringSize_0f7a4_11 200 (-nI n) d = some (nI 4 + d) := by
  have e : wloop (fun t : Int32 × Int32 => l_J6_stringSize_0f7a4_16 (-nI n) d t.1 t.2) 200 (-10, 1) = some (.inr (nI 4 + d)) := by
    refine (wl_st (f := fun t : Int32 × Int32 => l_J6_stringSize_0f7a4_16 (-nI n) d t.1 t.2) (n := 199) (s := (-nI 10, nI 1)) (ss_go (by omega) (by omega) (by omega) (by omega))).trans ?_
    refine (wl_st (f := fun t : Int32 × Int32 => l_J6_stringSize_0f7a4_16 (-nI n) d t.1 t.2) (n := 198) (s := (-nI 100, nI 2)) (ss_go (by omega) (by omega) (by omega) (by omega))).trans ?_
    refine (wl_st (f := fun t : Int32 × Int32 => l_J6_stringSize_0f7a4_16 (-nI n) d t.1 t.2) (n := 197) (s := (-nI 1000, nI 3)) (ss_go (by omega) (by omega) (by omega) (by omega))).trans ?_
    exact wl_en (s := (-nI 10000, nI 4)) (n := 196) (ss_end (by omega) (by omega) (by omega) (by omega))
  unfold b_J6_stringSize_0f7a4_11
  rw [e]
  rfl
theorem nw_4_ {n m : Nat} {M : RowS} (h1 : 1000 ≤ n) (h2 : n < 10000) (hm : m + 4 ≤ 40) (h : M.1 0 22 = nI m) : f_X8_writesNumber 200 M (nI n) = some (wrM M m (m + 4) (dgs n (m + 4))) := by
  have e1 : wloop (fun t : Int32 => l_X8_writesNumber_2 (nI n) t) 200 1 = some (nI 1000) := by
    refine (wl_st (f := fun t : Int32 => l_X8_writesNumber_2 (nI n) t) (n := 199) (s := nI 1) (nw_2 (by omega) (by omega) (by omega) (by omega))).trans ?_
    refine (wl_st (f := fun t : Int32 => l_X8_writesNumber_2 (nI n) t) (n := 198) (s := nI 10) (nw_2 (by omega) (by omega) (by omega) (by omega))).trans ?_
    refine (wl_st (f := fun t : Int32 => l_X8_writesNumber_2 (nI n) t) (n := 197) (s := nI 100) (nw_2 (by omega) (by omega) (by omega) (by omega))).trans ?_
    exact wl_en (n := 196) (s := nI 1000) (nw_1 (by omega) (by omega) (by omega) (by omega))
  have e2 : wloop (fun t : Int32 × RowS => l_X8_writesNumber_18 (nI n) t.1 t.2) 200 (nI 1000, wrM M m m (dgs n (m + 4))) = some (wrM M m (m + 4) (dgs n (m + 4))) := by
    refine (wl_st (f := fun t : Int32 × RowS => l_X8_writesNumber_18 (nI n) t.1 t.2) (n := 199) (s := (nI 1000, wrM M m (m + 0) (dgs n (m + 4)))) (nw_3 (by omega) (by omega) (by omega) (by omega) (by omega) (dg_at (x := 3) (by omega) (by congr 1 <;> omega)))).trans ?_
    refine (wl_st (f := fun t : Int32 × RowS => l_X8_writesNumber_18 (nI n) t.1 t.2) (n := 198) (s := (nI 100, wrM M m (m + 1) (dgs n (m + 4)))) (nw_3 (by omega) (by omega) (by omega) (by omega) (by omega) (dg_at (x := 2) (by omega) (by congr 1 <;> omega)))).trans ?_
    refine (wl_st (f := fun t : Int32 × RowS => l_X8_writesNumber_18 (nI n) t.1 t.2) (n := 197) (s := (nI 10, wrM M m (m + 2) (dgs n (m + 4)))) (nw_3 (by omega) (by omega) (by omega) (by omega) (by omega) (dg_at (x := 1) (by omega) (by congr 1 <;> omega)))).trans ?_
    refine (wl_st (f := fun t : Int32 × RowS => l_X8_writesNumber_18 (nI n) t.1 t.2) (n := 196) (s := (nI 1, wrM M m (m + 3) (dgs n (m + 4)))) (nw_3 (by omega) (by omega) (by omega) (by omega) (by omega) (dg_at (x := 0) (by omega) (by congr 1 <;> omega)))).trans ?_
    exact wl_en (n := 195) (s := (nI 0, wrM M m (m + 4) (dgs n (m + 4)))) nw_4
  rw [wm_0 h] at e2
  unfold f_X8_writesNumber
  rw [e1, ob_some]
  unfold b_X8_writesNumber_18
  rw [e2]
  rfl
theorem ss_5 {n : Nat} {d : Int32} (h1 : 10000 ≤ n) (h2 : n < 100000) : b_J6_stringSize_0f7a4_11 200 (-nI n) d = some (nI 5 + d) := by
  have e : wloop (fun t : Int32 × Int32 => l_J6_stringSize_0f7a4_16 (-nI n) d t.1 t.2) 200 (-10, 1) = some (.inr (nI 5 + d)) := by
    refine (wl_st (f := fun t : Int32 × Int32 => l_J6_stringSize_0f7a4_16 (-nI n) d t.1 t.2) (n := 199) (s := (-nI 10, nI 1)) (ss_go (by omega) (by omega) (by omega) (by omega))).trans ?_
    refine (wl_st (f := fun t : Int32 × Int32 => l_J6_stringSize_0f7a4_16 (-nI n) d t.1 t.2) (n := 198) (s := (-nI 100, nI 2)) (ss_go (by omega) (by omega) (by omega) (by omega))).trans ?_
    refine (wl_st (f := fun t : Int32 × Int32 => l_J6_stringSize_0f7a4_16 (-nI n) d t.1 t.2) (n := 197) (s := (-nI 1000, nI 3)) (ss_go (by omega) (by omega) (by omega) (by omega))).trans ?_
    refine (wl_st (f := fun t : Int32 × Int32 => l_J6_stringSize_0f7a4_16 (-nI n) d t.1 t.2) (n := 196) (s := (-nI 10000, nI 4)) (ss_go (by omega) (by omega) (by omega) (by omega))).trans ?_
    exact wl_en (s := (-nI 100000, nI 5)) (n := 195) (ss_end (by omega) (by omega) (by omega) (by omega))
  unfold b_J6_stringSize_0f7a4_11
  rw [e]
  rfl
theorem nw_5_ {n m : Nat} {M : RowS} (h1 : 10000 ≤ n) (h2 : n < 100000) (hm : m + 5 ≤ 40) (h : M.1 0 22 = nI m) : f_X8_writesNumber 200 M (nI n) = some (wrM M m (m + 5) (dgs n (m + 5))) := by
  have e1 : wloop (fun t : Int32 => l_X8_writesNumber_2 (nI n) t) 200 1 = some (nI 10000) := by
    refine (wl_st (f := fun t : Int32 => l_X8_writesNumber_2 (nI n) t) (n := 199) (s := nI 1) (nw_2 (by omega) (by omega) (by omega) (by omega))).trans ?_
    refine (wl_st (f := fun t : Int32 => l_X8_writesNumber_2 (nI n) t) (n := 198) (s := nI 10) (nw_2 (by omega) (by omega) (by omega) (by omega))).trans ?_
    refine (wl_st (f := fun t : Int32 => l_X8_writesNumber_2 (nI n) t) (n := 197) (s := nI 100) (nw_2 (by omega) (by omega) (by omega) (by omega))).trans ?_
    refine (wl_st (f := fun t : Int32 => l_X8_writesNumber_2 (nI n) t) (n := 196) (s := nI 1000) (nw_2 (by omega) (by omega) (by omega) (by omega))).trans ?_
    exact wl_en (n := 195) (s := nI 10000) (nw_1 (by omega) (by omega) (by omega) (by omega))
  have e2 : wloop (fun t : Int32 × RowS => l_X8_writesNumber_18 (nI n) t.1 t.2) 200 (nI 10000, wrM M m m (dgs n (m + 5))) = some (wrM M m (m + 5) (dgs n (m + 5))) := by
    refine (wl_st (f := fun t : Int32 × RowS => l_X8_writesNumber_18 (nI n) t.1 t.2) (n := 199) (s := (nI 10000, wrM M m (m + 0) (dgs n (m + 5)))) (nw_3 (by omega) (by omega) (by omega) (by omega) (by omega) (dg_at (x := 4) (by omega) (by congr 1 <;> omega)))).trans ?_
    refine (wl_st (f := fun t : Int32 × RowS => l_X8_writesNumber_18 (nI n) t.1 t.2) (n := 198) (s := (nI 1000, wrM M m (m + 1) (dgs n (m + 5)))) (nw_3 (by omega) (by omega) (by omega) (by omega) (by omega) (dg_at (x := 3) (by omega) (by congr 1 <;> omega)))).trans ?_
    refine (wl_st (f := fun t : Int32 × RowS => l_X8_writesNumber_18 (nI n) t.1 t.2) (n := 197) (s := (nI 100, wrM M m (m + 2) (dgs n (m + 5)))) (nw_3 (by omega) (by omega) (by omega) (by omega) (by omega) (dg_at (x := 2) (by omega) (by congr 1 <;> omega)))).trans ?_
    refine (wl_st (f := fun t : Int32 × RowS => l_X8_writesNumber_18 (nI n) t.1 t.2) (n := 196) (s := (nI 10, wrM M m (m + 3) (dgs n (m + 5)))) (nw_3 (by omega) (by omega) (by omega) (by omega) (by omega) (dg_at (x := 1) (by omega) (by congr 1 <;> omega)))).trans ?_
    refine (wl_st (f := fun t : Int32 × RowS => l_X8_writesNumber_18 (nI n) t.1 t.2) (n := 195) (s := (nI 1, wrM M m (m + 4) (dgs n (m + 5)))) (nw_3 (by omega) (by omega) (by omega) (by omega) (by omega) (dg_at (x := 0) (by omega) (by congr 1 <;> omega)))).trans ?_
    exact wl_en (n := 194) (s := (nI 0, wrM M m (m + 5) (dgs n (m + 5)))) nw_4
  rw [wm_0 h] at e2
  unfold f_X8_writesNumber
  rw [e1, ob_some]
  unfold b_X8_writesNumber_18
  rw [e2]
  rfl
theorem digits_ok {n : Nat} (hn : n < 100000) : ∃ D, 1 ≤ D ∧ D ≤ 5 ∧ (n < 10 → D ≤ 1) ∧ (n < 10000 → D ≤ 4) ∧ (∀ (m : Nat) (s : Int32) (G : GlbS), m + D ≤ 16 → b_J6_getChars_ba4f3_22 200 (-nI n) (nI (m + D)) s G = b_J6_getChars_ba4f3_104 (nI m) s (wrG G m (m + D) (dgs n (m + D)))) ∧ (∀ (m : Nat) (M : RowS), m + D ≤ 40 → M.1 0 22 = nI m → f_X8_writesNumber 200 M (nI n) = some (wrM M m (m + D) (dgs n (m + D)))) ∧ ∀ d : Int32, b_J6_stringSize_0f7a4_11 200 (-nI n) d = some (nI D + d) := by
  by_cases h1 : n < 10
  · exact ⟨1, by omega, by omega, fun _ => by omega, fun _ => by omega, fun m s G hm => gc_1 (by omega) h1 hm, fun m M hm h => nw_1_ (by omega) h1 hm h, fun d => ss_1 (by omega) h1⟩
  · by_cases h2 : n < 100
    · exact ⟨2, by omega, by omega, fun _ => by omega, fun _ => by omega, fun m s G hm => gc_2 (by omega) h2 hm, fun m M hm h => nw_2_ (by omega) h2 hm h, fun d => ss_2 (by omega) h2⟩
    · by_cases h3 : n < 1000
      · exact ⟨3, by omega, by omega, fun _ => by omega, fun _ => by omega, fun m s G hm => gc_3 (by omega) h3 hm, fun m M hm h => nw_3_ (by omega) h3 hm h, fun d => ss_3 (by omega) h3⟩
      · by_cases h4 : n < 10000
        · exact ⟨4, by omega, by omega, fun _ => by omega, fun _ => by omega, fun m s G hm => gc_4 (by omega) h4 hm, fun m M hm h => nw_4_ (by omega) h4 hm h, fun d => ss_4 (by omega) h4⟩
        · exact ⟨5, by omega, by omega, fun _ => by omega, fun _ => by omega, fun m s G hm => gc_5 (by omega) hn hm, fun m M hm h => nw_5_ (by omega) hn hm h, fun d => ss_5 (by omega) hn⟩
def FX (m : Nat) (G : GlbS) (M : RowS) : Prop := G 5 3 = nI m ∧ M.1 0 22 = nI m ∧ ∀ k, k < m → bd (M.1 21 k) 0 127 ∧ G 6 k = M.1 21 k
def FFr (G' : GlbS) (M' : RowS) (G : GlbS) (M : RowS) : Prop := (∀ c, c ≠ 5 → c ≠ 6 → G' c = G c) ∧ (∀ c, c ≠ 0 → c ≠ 21 → M'.1 c = M.1 c) ∧ M'.2 = M.2 ∧ ∀ k, k ≠ 22 → M'.1 0 k = M.1 0 k
theorem ffr_tr {G G1 G2 : GlbS} {M M1 M2 : RowS} (a : FFr G1 M1 G M) (b : FFr G2 M2 G1 M1) : FFr G2 M2 G M :=
  ⟨fun c h1 h2 => (b.1 c h1 h2).trans (a.1 c h1 h2), fun c h1 h2 => (b.2.1 c h1 h2).trans (a.2.1 c h1 h2), b.2.2.1.trans a.2.2.1, fun k h => (b.2.2.2 k h).trans (a.2.2.2 k h)⟩
theorem wrG_6 {G : GlbS} {m E : Nat} {f : Nat → Int32} (k : Nat) : (wrG G m E f) 6 k = if m ≤ k ∧ k < E then f k else G 6 k := by
  unfold wrG
  rw [va_up_self]
theorem wrG_c {G : GlbS} {m E c : Nat} {f : Nat → Int32} (h : c ≠ 6) : (wrG G m E f) c = G c := by
  unfold wrG
  exact va_up_ne _ _ h
theorem dgs_bd (n E k : Nat) : bd (dgs n E k) 0 127 := by
  unfold dgs bd
  rw [nI_toInt (by omega)]
  omega
theorem fx_wr {m D n : Nat} {G : GlbS} {M : RowS} (h : FX m G M) : FX (m + D) (sg (wrG G m (m + D) (dgs n (m + D))) 5 3 (nI (m + D))) (wrM M m (m + D) (dgs n (m + D))) ∧ FFr (sg (wrG G m (m + D) (dgs n (m + D))) 5 3 (nI (m + D))) (wrM M m (m + D) (dgs n (m + D))) G M := by
  refine ⟨⟨sg_at, wm_22, fun k hk => ?_⟩, fun c h5 h6 => by rw [sg_c h5, wrG_c h6], fun c h0 h21 => wm_c h0 h21, rfl, fun k hk => wm_k hk⟩
  rw [sg_c (by decide), wm_21, wrG_6]
  by_cases q : m ≤ k ∧ k < m + D
  · rw [if_pos q, if_pos q]
    exact ⟨dgs_bd _ _ _, rfl⟩
  · rw [if_neg q, if_neg q]
    exact h.2.2 k (by omega)
theorem char_c {m : Nat} {G : GlbS} (h : G 5 3 = nI m) (hm : m < 16) {c : Int32} (hc : bd c 0 127) (hc8 : c.toInt8.toInt32 = c) : f_J4_append_cf468 G c = some (sg (sg G 5 3 (nI (m + 1))) 6 m c) := by
  unfold f_J4_append_cf468 f_J5_append_3fe6f f_J5_ensureCapacityInternal_d00df f_J1_canEncode_fc78d
  rw [h, nI_1]
  have e1 : nI (m + 1) - 16 ≤ 0 := by
    rw [show (16 : Int32) = nI 16 from rfl, i32_le, pk_sub_toInt (by omega) (by omega), show (0 : Int32).toInt = 0 from rfl]
    omega
  have e2 : ¬ (255 : Int32) < c := by
    unfold bd at hc
    rw [i32_lt, show (255 : Int32).toInt = 255 from rfl]
    omega
  simp only [lt, if_pos e1, if_neg e2, ob_some, h, nI_1, tt_t, if_true, hc8, nI_clamp (show m < 2 ^ 31 by omega), if_pos (show 0 ≤ (nI m).toInt ∧ (nI m).toInt < 16 by rw [nI_toInt (by omega)]; omega)]
theorem char_m {m : Nat} {M : RowS} (h : M.1 0 22 = nI m) (hm : m < 40) (c : Int32) : f_X8_writes M c = some (si (si M 21 m c) 0 22 (nI (m + 1))) := by
  unfold f_X8_writes
  rw [h, if_pos (by rw [nI_toInt (by omega)]; omega), nI_clamp (by omega), lt_eq]
  have e : (si M 21 m c).1 0 22 = nI m := by rw [si_ne (Or.inl (by decide))]; exact h
  rw [e, nI_1, lt_eq]
theorem char_x {m : Nat} {G : GlbS} {M : RowS} (h : FX m G M) {c : Int32} (hc : bd c 0 127) : FX (m + 1) (sg (sg G 5 3 (nI (m + 1))) 6 m c) (si (si M 21 m c) 0 22 (nI (m + 1))) ∧ FFr (sg (sg G 5 3 (nI (m + 1))) 6 m c) (si (si M 21 m c) 0 22 (nI (m + 1))) G M := by
  refine ⟨⟨?_, si_at, fun k hk => ?_⟩, fun d h5 h6 => by rw [sg_c h6, sg_c h5], fun d h0 h21 => ?_, rfl, fun k hk => by rw [si_ne (Or.inr hk), si_ne (Or.inl (by decide))]⟩
  · rw [sg_c (by decide), sg_at]
  · rw [si_ne (Or.inl (by decide))]
    by_cases q : k = m
    · subst q
      rw [si_at, sg_at]
      exact ⟨hc, rfl⟩
    · rw [si_ne (Or.inr q), sg_ne (Or.inr q), sg_c (by decide)]
      exact h.2.2 k (by omega)
  · unfold si
    simp only [va_up_ne _ _ h0, va_up_ne _ _ h21]
theorem char_ok {m : Nat} {G : GlbS} {M : RowS} (h : FX m G M) (hm : m < 16) {c : Int32} (hc : bd c 0 127) (hc8 : c.toInt8.toInt32 = c) : ∃ G' M', f_J4_append_cf468 G c = some G' ∧ f_X8_writes M c = some M' ∧ FX (m + 1) G' M' ∧ FFr G' M' G M :=
  ⟨_, _, char_c h.1 hm hc hc8, char_m h.2.1 (by omega) c, (char_x h hc).1, (char_x h hc).2⟩
theorem num_ok {m n : Nat} {G : GlbS} {M : RowS} (h : FX m G M) (hn : n < 100000) : ∃ D, 1 ≤ D ∧ D ≤ 5 ∧ (n < 10 → D ≤ 1) ∧ (n < 10000 → D ≤ 4) ∧ (m + D ≤ 16 → ∃ G' M', f_J4_append_bf812 200 G (nI n) = some G' ∧ f_X8_writesNumber 200 M (nI n) = some M' ∧ FX (m + D) G' M' ∧ FFr G' M' G M) := by
  obtain ⟨D, d1, d2, d3, d4, d5, d6, d7⟩ := digits_ok hn
  refine ⟨D, d1, d2, d3, d4, fun hm => ⟨_, _, ?_, d6 m M (by omega) h.2.1, (fx_wr (n := n) h).1, (fx_wr h).2⟩⟩
  have e1 : nI (m + D) - 16 ≤ 0 := by
    rw [show (16 : Int32) = nI 16 from rfl, i32_le, pk_sub_toInt (by omega) (by omega), show (0 : Int32).toInt = 0 from rfl]
    omega
  have hs : f_J6_stringSize_0f7a4 200 (nI n) = some (nI D) := by
    unfold f_J6_stringSize_0f7a4
    rw [if_neg (nI_pos (by omega)), lt_eq, d7, Int32.add_zero]
  have hg : f_J6_getChars_ba4f3 200 G (nI n) (nI (m + D)) = some (nI m, wrG G m (m + D) (dgs n (m + D))) := by
    unfold f_J6_getChars_ba4f3 b_J6_getChars_ba4f3_12
    rw [if_pos (nI_pos' (by omega)), if_pos rfl, lt_eq, d5 m 0 G hm]
    unfold b_J6_getChars_ba4f3_104
    rw [if_pos rfl]
  unfold f_J4_append_bf812 f_J5_append_c97b9 f_J5_ensureCapacityInternal_d00df b_J5_append_c97b9_48
  simp only [lt, h.1, hs, ob_some, nI_add, if_pos e1, hg]
theorem neg_ok {m n : Nat} {G : GlbS} {M : RowS} (h : FX m G M) (h1 : 1 ≤ n) (hn : n < 100000) (hm : m + 6 ≤ 16) : ∃ D G' M', D ≤ 5 ∧ f_J4_append_bf812 200 G (-nI n) = some G' ∧ f_X8_writesSigned 200 M (-nI n) = some M' ∧ FX (m + (D + 1)) G' M' ∧ FFr G' M' G M := by
  obtain ⟨D, d1, d2, d3, d4, d5, d6, d7⟩ := digits_ok hn
  have c2 := char_m h.2.1 (by omega) 45
  obtain ⟨c3, c4⟩ := char_x h (c := 45) (by unfold bd; decide)
  have c5 : ∀ k, k ≠ m → (si (si M 21 m 45) 0 22 (nI (m + 1))).1 21 k = M.1 21 k := fun k hk => by rw [si_ne (Or.inl (by decide)), si_ne (Or.inr hk)]
  have c6 : (si (si M 21 m 45) 0 22 (nI (m + 1))).1 21 m = 45 := by rw [si_ne (Or.inl (by decide)), si_at]
  generalize si (si M 21 m 45) 0 22 (nI (m + 1)) = M1 at c2 c3 c4 c5 c6
  have hneg : ¬ (0 : Int32) ≤ -nI n := by rw [i32_le, ng_int (by omega), show (0 : Int32).toInt = 0 from rfl]; omega
  have hlt : -nI n < 0 := by rw [i32_lt, ng_int (by omega), show (0 : Int32).toInt = 0 from rfl]; omega
  have m2 := d6 (m + 1) M1 (by omega) c3.2.1
  have e1 : nI (m + (D + 1)) - 16 ≤ 0 := by
    rw [show (16 : Int32) = nI 16 from rfl, i32_le, pk_sub_toInt (by omega) (by omega), show (0 : Int32).toInt = 0 from rfl]
    omega
  have hs : f_J6_stringSize_0f7a4 200 (-nI n) = some (nI (D + 1)) := by
    unfold f_J6_stringSize_0f7a4
    rw [if_pos hlt, d7, nI_1]
  have hE : m + (D + 1) = m + 1 + D := by omega
  have hg : f_J6_getChars_ba4f3 200 G (-nI n) (nI (m + (D + 1))) = some (nI m, sg (wrG G (m + 1) (m + 1 + D) (dgs n (m + 1 + D))) 6 m 45) := by
    unfold f_J6_getChars_ba4f3 b_J6_getChars_ba4f3_12
    rw [if_neg hneg, if_neg (by decide), hE, d5 (m + 1) 1 G (by omega)]
    unfold b_J6_getChars_ba4f3_104
    rw [if_neg (by decide), pk_m1, lt_eq, if_pos (by rw [nI_toInt (by omega)]; omega), nI_clamp (by omega), lt_eq]
  refine ⟨D, sg (sg (wrG G (m + 1) (m + 1 + D) (dgs n (m + 1 + D))) 6 m 45) 5 3 (nI (m + (D + 1))), wrM M1 (m + 1) (m + 1 + D) (dgs n (m + 1 + D)), d2, ?_, ?_, ⟨sg_at, by rw [wm_22, hE], fun k hk => ?_⟩, fun c h5 h6 => by rw [sg_c h5, sg_c h6, wrG_c h6], fun c h0 h21 => by rw [wm_c h0 h21]; exact c4.2.1 c h0 h21, c4.2.2.1, fun k hk => by rw [wm_k hk]; exact c4.2.2.2 k hk⟩
  · unfold f_J4_append_bf812 f_J5_append_c97b9 f_J5_ensureCapacityInternal_d00df b_J5_append_c97b9_48
    simp only [lt, h.1, hs, ob_some, nI_add, if_pos e1, hg]
  · unfold f_X8_writesSigned b_X8_writesSigned_10
    have ho : f_X8_off0 (-nI n) = nI n := by
      unfold f_X8_off0
      rw [if_neg hneg, ng_neg]
    rw [if_neg hneg, c2, ob_some, lt_eq, lt_eq, ho, m2, ob_some]
    rfl
  · rw [sg_c (by decide), wm_21]
    by_cases q : m + 1 ≤ k ∧ k < m + 1 + D
    · rw [if_pos q, sg_ne (Or.inr (by omega)), wrG_6, if_pos q]
      exact ⟨dgs_bd _ _ _, rfl⟩
    · rw [if_neg q]
      by_cases q2 : k = m
      · subst q2
        rw [sg_at, c6]
        exact ⟨by unfold bd; decide, rfl⟩
      · rw [sg_ne (Or.inr q2), wrG_6, if_neg q, c5 k q2]
        exact h.2.2 k (by omega)
