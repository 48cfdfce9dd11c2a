/-! BASE2: numbers and loops, for the readings alone -/
theorem wl_count {σ ρ : Type} {f : σ → Option (σ ⊕ ρ)} (st : Nat → σ) (N : Nat) (r : ρ) (hs : ∀ i, i < N → f (st i) = some (.inl (st (i + 1)))) (he : f (st N) = some (.inr r)) : ∀ n, N < n → wloop f n (st 0) = some r := by
  have key : ∀ d i n, i + d = N → d < n → wloop f n (st i) = some r := by
    intro d
    induction d with
    | zero =>
      intro i n hi hn
      have : i = N := by omega
      subst this
      obtain ⟨n, rfl⟩ : ∃ k, n = k + 1 := ⟨n - 1, by omega⟩
      simp only [wloop, he]
    | succ d ih =>
      intro i n hi hn
      obtain ⟨n, rfl⟩ : ∃ k, n = k + 1 := ⟨n - 1, by omega⟩
      simp only [wloop, hs i (by omega)]
      exact ih (i + 1) n (by omega) (by omega)
  intro n hn
  exact key N 0 n (by omega) hn
theorem wl_inv {σ ρ : Type} {f : σ → Option (σ ⊕ ρ)} (I : σ → Prop) (Q : ρ → Prop) (μ : σ → Nat) (step : ∀ s, I s → (∃ t, f s = some (.inl t) ∧ I t ∧ μ t < μ s) ∨ (∃ r, f s = some (.inr r) ∧ Q r)) : ∀ n s, I s → μ s < n → ∃ r, wloop f n s = some r ∧ Q r := by
  intro n
  induction n with
  | zero => intro s _ h; omega
  | succ n ih =>
    intro s hI h
    rcases step s hI with ⟨t, h1, h2, h3⟩ | ⟨r, h1, h2⟩
    · obtain ⟨r, h4, h5⟩ := ih t h2 (by omega)
      exact ⟨r, by simp only [wloop, h1]; exact h4, h5⟩
    · exact ⟨r, by simp only [wloop, h1], h2⟩
theorem ob_some {α β : Type} {a : α} {f : α → Option β} : ob (some a) f = f a := rfl
theorem lt_eq {α β : Type} {a : α} {f : α → β} : lt a f = f a := rfl
-- 32 bits
theorem i32_add {a b : Int32} (h : -2147483648 ≤ a.toInt + b.toInt ∧ a.toInt + b.toInt ≤ 2147483647) : (a + b).toInt = a.toInt + b.toInt := by
  rw [Int32.toInt_add, Int.bmod_eq_of_le (by omega) (by omega)]
theorem i32_sub {a b : Int32} (h : -2147483648 ≤ a.toInt - b.toInt ∧ a.toInt - b.toInt ≤ 2147483647) : (a - b).toInt = a.toInt - b.toInt := by
  rw [Int32.toInt_sub, Int.bmod_eq_of_le (by omega) (by omega)]
theorem i32_mul {a b : Int32} (h : -2147483648 ≤ a.toInt * b.toInt ∧ a.toInt * b.toInt ≤ 2147483647) : (a * b).toInt = a.toInt * b.toInt := by
  rw [Int32.toInt_mul, Int.bmod_eq_of_le (by omega) (by omega)]
theorem tdiv_bd {a b : Int} {B : Int} (h : -B ≤ a ∧ a ≤ B) (hB : 0 ≤ B) : -B ≤ a.tdiv b ∧ a.tdiv b ≤ B := by
  have h1 : (a.tdiv b).natAbs ≤ a.natAbs := by
    rw [Int.natAbs_tdiv]; exact Nat.div_le_self _ _
  omega
theorem i32_div {a b : Int32} (h : -2147483647 ≤ a.toInt ∧ a.toInt ≤ 2147483647) : (a / b).toInt = a.toInt.tdiv b.toInt := by
  have := tdiv_bd (b := b.toInt) h (by omega)
  rw [Int32.toInt_div, Int.bmod_eq_of_le (by omega) (by omega)]
-- 64 bits
theorem i64_add {a b : Int64} (h : -9000000000000000000 ≤ a.toInt + b.toInt ∧ a.toInt + b.toInt ≤ 9000000000000000000) : (a + b).toInt = a.toInt + b.toInt := by
  rw [Int64.toInt_add, Int.bmod_eq_of_le (by omega) (by omega)]
theorem i64_sub {a b : Int64} (h : -9000000000000000000 ≤ a.toInt - b.toInt ∧ a.toInt - b.toInt ≤ 9000000000000000000) : (a - b).toInt = a.toInt - b.toInt := by
  rw [Int64.toInt_sub, Int.bmod_eq_of_le (by omega) (by omega)]
theorem i64_mul {a b : Int64} (h : -9000000000000000000 ≤ a.toInt * b.toInt ∧ a.toInt * b.toInt ≤ 9000000000000000000) : (a * b).toInt = a.toInt * b.toInt := by
  rw [Int64.toInt_mul, Int.bmod_eq_of_le (by omega) (by omega)]
theorem i64_div {a b : Int64} (h : -9000000000000000000 ≤ a.toInt ∧ a.toInt ≤ 9000000000000000000) : (a / b).toInt = a.toInt.tdiv b.toInt := by
  have := tdiv_bd (b := b.toInt) h (by omega)
  rw [Int64.toInt_div, Int.bmod_eq_of_le (by omega) (by omega)]
theorem i32_ext {a : Int32} : a.toInt64.toInt = a.toInt := Int32.toInt_toInt64 a
theorem i32_eq {a b : Int32} (h : a.toInt = b.toInt) : a = b := Int32.toInt_inj.mp h
theorem i64_eq {a b : Int64} (h : a.toInt = b.toInt) : a = b := Int64.toInt_inj.mp h
theorem i32_lt {a b : Int32} : a < b ↔ a.toInt < b.toInt := Int32.lt_iff_toInt_lt
theorem i32_le {a b : Int32} : a ≤ b ↔ a.toInt ≤ b.toInt := Int32.le_iff_toInt_le
theorem i64_lt {a b : Int64} : a < b ↔ a.toInt < b.toInt := Int64.lt_iff_toInt_lt
theorem i64_le {a b : Int64} : a ≤ b ↔ a.toInt ≤ b.toInt := Int64.le_iff_toInt_le
theorem i32_bd (a : Int32) : -2147483648 ≤ a.toInt ∧ a.toInt ≤ 2147483647 := by
  have h1 := Int32.le_toInt a
  have h2 := Int32.toInt_lt a
  omega
theorem nI_i {i : Nat} (h : i < 2147483648) : (nI i).toInt = (i : Int) := nI_toInt (by omega)
theorem nI_nat {i : Nat} (h : i < 2147483648) : (nI i).toNatClampNeg = i := by
  show (nI i).toInt.toNat = i
  rw [nI_i h]; rfl
theorem gI_of {a : Int32} {i : Nat} (h : a.toInt = (i : Int)) : a = nI i := by
  have := i32_bd a
  exact i32_eq (by rw [nI_i (by omega)]; exact h)
theorem gI_1 {i : Nat} (h : i < 2147483647) : nI i + 1 = nI (i + 1) := by
  apply i32_eq
  have e1 : (1 : Int32).toInt = 1 := rfl
  rw [i32_add (by rw [nI_i (by omega), e1]; omega), nI_i (by omega), nI_i (by omega), e1]; omega
theorem gclamp {a : Int32} {i : Nat} (h : a.toInt = (i : Int)) : a.toNatClampNeg = i := by
  show a.toInt.toNat = i
  rw [h]; rfl

