/-! HISTORY: keeping -/
section SG
variable {G : GlbS} {c k c2 k2 : Nat} {v : Int32}
theorem sg_at : (sg G c k v) c k = v := by unfold sg; simp only [va_up_self]
theorem sg_c (h : c2 ≠ c) : (sg G c k v) c2 = G c2 := by unfold sg; exact va_up_ne _ _ h
theorem sg_ne (h : c2 ≠ c ∨ k2 ≠ k) : (sg G c k v) c2 k2 = G c2 k2 := by
  unfold sg
  by_cases q : c2 = c
  · subst q
    rw [va_up_self, va_up_ne _ _ (by rcases h with h | h; exact absurd rfl h; exact h)]
  · rw [va_up_ne _ _ q]
end SG
theorem cpy_a2 {α : Type} {f g : Nat → α} {b d n k : Nat} (h : k < n) : va_cpy f g b d n (d + k) = f (b + k) := by rw [cpy_at (by omega), Nat.add_sub_cancel_left]
theorem fm_dec : ∀ i, i < 21 → f_J9_floorMod_7cf53 (nI i) 10 = some (nI (i % 10)) := by decide +kernel
