/-! GOOD: what holds of the current row between two calls -/
/-- the accounts add up -/
def Acc (S : Nat → Int64) : Prop := ∀ j, j < 2 → S j = S (4 + j) - S (2 + j)
def Good (R : RowS) (N : Nat → Int32) (S : Nat → Int64) : Prop := wfN N ∧ wfS N S ∧ Acc S ∧ Quiet N S ∧ Settled R N S
def IH (G : GlbS) : Prop := ∃ o c : Nat, o < 10 ∧ c ≤ 10 ∧ G 1 1 = nI o ∧ G 1 2 = nI c
def Jn (P : RowsS) (G : GlbS) : Prop := (∃ N S, Good (P 0) N S) ∧ IH G
theorem i64_acc {a b c v : Int64} (h : a = b - c) : a - v = b - (c + v) := by
  subst h
  apply Int64.toBitVec_inj.mp
  simp only [Int64.toBitVec_sub, Int64.toBitVec_add]
  bv_omega
theorem i64_acc2 {a b c v : Int64} (h : a = b - c) : a + v = (b + v) - c := by
  subst h
  apply Int64.toBitVec_inj.mp
  simp only [Int64.toBitVec_sub, Int64.toBitVec_add]
  bv_omega
theorem acc_bstep {j : Nat} (hj : j < 2) (L : Int64) (t : Nat) {x : BS} (a : Acc x.2.2) : Acc (bstep j L t x).2.2 := by
  unfold bstep
  split
  · split
    · split
      · split
        · exact a
        · intro i hi
          show (va_up (va_up x.2.2 j (x.2.2 j - fvol x.2.1 t)) (2 + j) (x.2.2 (2 + j) + fvol x.2.1 t)) i = (va_up (va_up x.2.2 j (x.2.2 j - fvol x.2.1 t)) (2 + j) (x.2.2 (2 + j) + fvol x.2.1 t)) (4 + i) - (va_up (va_up x.2.2 j (x.2.2 j - fvol x.2.1 t)) (2 + j) (x.2.2 (2 + j) + fvol x.2.1 t)) (2 + i)
          rw [va_up_ne _ _ (show i ≠ 2 + j by omega), va_up_ne _ _ (show 4 + i ≠ 2 + j by omega), va_up_ne _ _ (show 4 + i ≠ j by omega)]
          by_cases q : i = j
          · subst q
            rw [va_up_self, va_up_self]
            exact i64_acc (a i hi)
          · rw [va_up_ne _ _ q, va_up_ne _ _ (show 2 + i ≠ 2 + j by omega), va_up_ne _ _ (show 2 + i ≠ j by omega)]
            exact a i hi
      · exact a
    · exact a
  · exact a
theorem acc_brun {j : Nat} (hj : j < 2) (L : Int64) {x : BS} (a : Acc x.2.2) : ∀ n, Acc (brun j L n x).2.2 := by
  intro n
  induction n with
  | zero => exact a
  | succ n ih => exact acc_bstep hj L n ih
theorem acc_sLeg {j : Nat} (hj : j < 2) : ∀ (k : Nat) (N : Nat → Int32) (S : Nat → Int64), Acc S → Acc (sLeg j k N S).2.2 := by
  intro k
  induction k with
  | zero => intro N S a; exact a
  | succ k ih =>
    intro N S a
    have h1 : Acc (rnd j N S).2.2 := acc_brun hj _ (x := (0, N, S)) a _
    unfold sLeg
    split
    · exact a
    · exact ih _ _ h1
theorem acc_settle {N : Nat → Int32} {S : Nat → Int64} (a : Acc S) : Acc (settleS N S).2.2 := by
  unfold settleS
  exact acc_sLeg (by decide) 13 _ _ (acc_sLeg (by decide) 13 _ _ a)
