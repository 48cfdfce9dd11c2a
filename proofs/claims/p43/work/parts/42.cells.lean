/-! CELLS: what the two sides read of a row -/
theorem wl_rel {σ ρ : Type} {f : σ → Option (σ ⊕ ρ)} (I : Nat → σ → Prop) (Q : ρ → Prop) (N : Nat) (hs : ∀ i s, i < N → I i s → ∃ t, f s = some (.inl t) ∧ I (i + 1) t) (he : ∀ s, I N s → ∃ r, f s = some (.inr r) ∧ Q r) : ∀ d i n s, i + d = N → d < n → I i s → ∃ r, wloop f n s = some r ∧ Q r := by
  intro d
  induction d with
  | zero =>
    intro i n s hi hn hI
    have e : i = N := by omega
    subst e
    obtain ⟨k, rfl⟩ : ∃ k, n = k + 1 := ⟨n - 1, by omega⟩
    obtain ⟨r, h1, h2⟩ := he s hI
    exact ⟨r, by simp only [wloop, h1], h2⟩
  | succ d ih =>
    intro i n s hi hn hI
    obtain ⟨k, rfl⟩ : ∃ k, n = k + 1 := ⟨n - 1, by omega⟩
    obtain ⟨t, h1, h2⟩ := hs i s (by omega) hI
    obtain ⟨r, h3, h4⟩ := ih (i + 1) k t (by omega) (by omega) h2
    exact ⟨r, by simp only [wloop, h1]; exact h3, h4⟩
theorem wl_st {σ ρ : Type} {f : σ → Option (σ ⊕ ρ)} {n : Nat} {s t : σ} (h : f s = some (.inl t)) : wloop f (n + 1) s = wloop f n t := by simp only [wloop, h]
theorem wl_en {σ ρ : Type} {f : σ → Option (σ ⊕ ρ)} {n : Nat} {s : σ} {r : ρ} (h : f s = some (.inr r)) : wloop f (n + 1) s = some r := by simp only [wloop, h]
theorem n2 {N : Nat → Int32} (h : wfN N) : N 2 = nI (cnt N) := gI_of (cnt_int h)
theorem tg0 {N : Nat → Int32} (h : wfN N) {t : Nat} (ht : t < cnt N) : tg N t 0 = nI (lgOf N t) := by
  have h1 := (h.2.2.2.2.2 t ht).1
  have e : lgOf N t = (tg N t 0).toInt.toNat := rfl
  unfold bd at h1
  exact gI_of (by omega)
theorem tg1 {N : Nat → Int32} (h : wfN N) {t : Nat} (ht : t < cnt N) : tg N t 1 = nI (ptOf N t) := by
  have h1 := (h.2.2.2.2.2 t ht).2.1
  have e : ptOf N t = (tg N t 1).toInt.toNat := rfl
  exact gI_of (by omega)
theorem i64_ne {x : Int32} (h : x.toInt ≠ 0) : ¬ x.toInt64 = 0 := l_ne (fun q => h (by rw [q]; rfl))
theorem i32_ne {x : Int32} (h : x.toInt ≠ 0) : ¬ x = 0 := fun q => h (by rw [q]; rfl)
theorem col_alt {r f : Int64} (hf : 0 ≤ f.toInt) : lmax 0 (lmin f r) = if 0 ≤ r then (if r ≤ f then r else f) else 0 := by
  have e0 : (0 : Int64).toInt = 0 := rfl
  unfold lmax lmin
  simp only [i64_lt, i64_le, e0]
  by_cases h1 : r.toInt < f.toInt
  · rw [if_pos h1]
    by_cases h2 : r.toInt < 0
    · rw [if_pos h2, if_neg (by omega)]
    · rw [if_neg h2, if_pos (by omega), if_pos (by omega)]
  · rw [if_neg h1, if_neg (by omega), if_pos (by omega)]
    by_cases h3 : r.toInt ≤ f.toInt
    · rw [if_pos h3]; exact i64_eq (by omega)
    · rw [if_neg h3]
section MODEL
variable {M : RowS} {t : Nat}
theorem m_legcell (j k : Nat) : (12 + (3 * nI j)) + nI k = nI (12 + 3 * j + k) := by
  rw [show (12 : Int32) = nI 12 from rfl, show (3 : Int32) = nI 3 from rfl, pk_mul, nI_add, nI_add]
end MODEL
/-! the class's row -/
def Rel (R : RowS) (N : Nat → Int32) (S : Nat → Int64) : Prop :=
  R.1 0 0 = N 0 ∧ R.1 0 1 = N 1 ∧ R.1 0 2 = N 2 ∧ (∀ p, p < 8 → R.1 1 p = N (4 + p)) ∧
  (∀ j, j < 2 → R.1 (j + 2) 0 = lg N j 0 ∧ R.1 (j + 2) 1 = lg N j 1 ∧ R.1 (j + 2) 2 = lg N j 2 ∧ R.2 (j + 2) 3 = S j ∧ R.2 (j + 2) 4 = S (2 + j) ∧ R.2 (j + 2) 5 = S (4 + j)) ∧
  (∀ t, t < cnt N → ∀ k, k < 7 → R.1 (t + 5) k = tg N t k)
def Cach (R : RowS) (N : Nat → Int32) : Prop := ∀ t, t < cnt N → R.1 (t + 5) 7 = pullS N t ∧ R.1 (t + 5) 8 = menS N t
section CLASS
variable {R : RowS} {N : Nat → Int32} {S : Nat → Int64} {t : Nat}
theorem c_tubeAt (ht : t < 12) : f_X3_tubeAt R (nI t) = t := by
  unfold f_X3_tubeAt
  rw [if_neg (nI_pos (by omega)), show (12 : Int32) = nI 12 from rfl, if_neg (by rw [nI_leI (by omega) (by omega)]; omega), nI_clamp (by omega)]
theorem c_legAt {j : Nat} (hj : j < 2) : f_X3_legAt R (nI j) = j := by
  unfold f_X3_legAt
  rcases (show j = 0 ∨ j = 1 by omega) with rfl | rfl <;> rfl
theorem c_press {p : Nat} (hp : p < 8) : f_X3_pressureAt R (nI p) = R.1 1 p := by
  unfold f_X3_pressureAt
  rw [if_neg (nI_pos (by omega)), show (8 : Int32) = nI 8 from rfl, if_neg (by rw [nI_leI (by omega) (by omega)]; omega), nI_clamp (by omega)]
theorem c_full (r : Rel R N S) (ht : t < cnt N) : f_X6_fullColumn (R.1 (t + 5)) = fullS N t := by
  unfold f_X6_fullColumn fullS
  rw [r.2.2.2.2.2 t ht 4 (by decide)]
theorem c_fvol (r : Rel R N S) (ht : t < cnt N) : f_X6_fullVolume (R.1 (t + 5)) = fvol N t := by
  unfold f_X6_fullVolume fvol
  rw [lt_eq, c_full r ht, r.2.2.2.2.2 t ht 2 (by decide)]
theorem c_run (h : wfN N) (r : Rel R N S) (q : Cach R N) (ht : t < cnt N) (L : Int64) : f_X6_runAt (R.1 (t + 5)) L = runS N t L := by
  have h1 := (h.2.2.2.2.2 t ht).2.2.2.2.1
  unfold bd at h1
  unfold f_X6_runAt runS
  rw [r.2.2.2.2.2 t ht 3 (by decide), if_neg (i32_ne (by omega)), (q t ht).1, (q t ht).2]
theorem c_col (h : wfN N) (r : Rel R N S) (q : Cach R N) (ht : t < cnt N) (L : Int64) : f_X6_columnAt (R.1 (t + 5)) L = colS N t L := by
  unfold f_X6_columnAt colS
  rw [r.2.2.2.2.2 t ht 6 (by decide), c_full r ht, c_run h r q ht]
  rfl
end CLASS

