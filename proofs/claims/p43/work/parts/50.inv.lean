/-! INVARIANT, and what is asked of arguments -/
section ARGS
theorem b2i_t : b2i true = 1 := rfl
theorem b2i_f : b2i false = 0 := rfl
theorem thr0 {M : RowS} (v : Int32) : (si M 0 0 v).1 0 0 = v := si_at
variable {P : RowsS} {G : GlbS} {M : RowS}
theorem n0 {N : Nat → Int32} (h : wfN N) : ∃ c : Nat, 2 ≤ c ∧ c ≤ 8 ∧ N 0 = nI c := by
  have h0 := h.1
  unfold bd at h0
  exact ⟨(N 0).toInt.toNat, by omega, by omega, gI_of (by omega)⟩
theorem pm1 {c : Nat} (hc : c ≤ 100) : ((nI c - 1).toInt64).toInt = (c : Int) - 1 := by
  rw [i32_ext, i32_sub (by rw [nI_toInt (by omega), show (1 : Int32).toInt = 1 from rfl]; omega), nI_toInt (by omega)]
  rfl
end ARGS

