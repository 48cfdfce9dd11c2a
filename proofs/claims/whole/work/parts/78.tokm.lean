/-! TOKENS 2: the model's next token -/
def MAdv (e p : Nat) (M M' : RowS) (q r : Nat) : Prop :=
  (∀ c, c ≠ 0 → M'.1 c = M.1 c) ∧ (∀ c, c ≠ 0 → M'.2 c = M.2 c) ∧ (∀ k, k ≠ 14 → k ≠ 15 → k ≠ 16 → k ≠ 17 → M'.1 0 k = M.1 0 k) ∧ M'.1 0 14 = nI r ∧ M'.1 0 15 = nI q ∧ p ≤ q ∧ q ≤ r ∧ r ≤ e ∧ (∀ k, p ≤ k → k < q → wsP (M.1 11 k)) ∧ (q = e ∨ ¬ wsP (M.1 11 q)) ∧
  ((q = e ∧ r = e ∧ M'.1 0 16 = 0) ∨
   (q < e ∧ f_X8_isLetter (M.1 11 q) = true ∧ M'.1 0 16 = 1 ∧ q < r ∧ (∀ k, q ≤ k → k < r → f_X8_isLetter (M.1 11 k) = true) ∧ (r = e ∨ ¬ f_X8_isLetter (M.1 11 r) = true) ∧ M'.2 0 18 = lN (hN (fun i => (M.1 11 (q + i)).toInt.toNat - 96) (min (r - q) 10))) ∨
   (q < e ∧ ¬ f_X8_isLetter (M.1 11 q) = true ∧ f_X8_isFigure (M.1 11 q) = true ∧ M'.1 0 16 = 2 ∧ q < r ∧ (∀ k, q ≤ k → k < r → f_X8_isFigure (M.1 11 k) = true) ∧ (r = e ∨ ¬ f_X8_isFigure (M.1 11 r) = true) ∧ M'.1 0 17 = nI (numF (fun i => (M.1 11 (q + i)).toInt.toNat - 48) (r - q))) ∨
   (q < e ∧ ¬ f_X8_isLetter (M.1 11 q) = true ∧ ¬ f_X8_isFigure (M.1 11 q) = true ∧ M'.1 0 16 = 3 ∧ r = q + 1))
theorem letter_v {x : Int32} (h : f_X8_isLetter x = true) : 97 ≤ x.toInt ∧ x.toInt ≤ 122 := by
  unfold f_X8_isLetter at h
  simp only [i32_lt, show (97 : Int32).toInt = 97 from rfl, show (122 : Int32).toInt = 122 from rfl] at h
  by_cases h1 : x.toInt < 97
  · rw [if_pos h1] at h; cases h
  · rw [if_neg h1] at h
    by_cases h2 : 122 < x.toInt
    · rw [if_pos h2] at h; cases h
    · omega
theorem fig_eq (x : Int32) : f_X8_isFigure x = f_X5_isDigit x := rfl
theorem let_eq (x : Int32) : f_X8_isLetter x = f_X5_isLetter x := rfl
section MADV
variable {M : RowS} {e : Nat}
theorem m_byteIn {k : Nat} (he : e ≤ 600) (h : M.1 0 13 = nI e) (hk : k < e) : f_X8_byteAt M (nI k) = some (M.1 11 k) := by
  unfold f_X8_byteAt
  rw [h, if_neg (by rw [nI_leI (by omega) (by omega)]; omega), if_pos (by rw [nI_toInt (by omega)]; omega), nI_clamp (by omega)]
theorem m_byteOut {k : Nat} (he : e ≤ 600) (h : M.1 0 13 = nI e) (hk : e ≤ k) (hk2 : k ≤ 600) : f_X8_byteAt M (nI k) = some (-1) := by
  unfold f_X8_byteAt
  rw [h, if_pos (by rw [nI_leI (by omega) (by omega)]; exact hk)]
theorem si_id {c k : Nat} {v : Int32} (h : M.1 c k = v) : si M c k v = M := by
  unfold si
  rw [← h, up_self, up_self]
theorem si_si {c k : Nat} {v w : Int32} : si (si M c k v) c k w = si M c k w := by
  unfold si
  simp only [va_up_self, up_up]
theorem m_skip (he : e ≤ 600) (h2 : M.1 0 13 = nI e) : ∀ d p n (M1 : RowS), M1 = si M 0 14 (nI p) → ∀ q, p + d = q → q ≤ e → (∀ k, p ≤ k → k < q → wsP (M.1 11 k)) → (q = e ∨ ¬ wsP (M.1 11 q)) → d < n → wloop (fun t : RowS => l_X8_next_0 t) n M1 = some (si M 0 14 (nI q)) := by
  intro d
  induction d with
  | zero =>
    intro p n M1 hM q hq hqe hw hs hn
    obtain ⟨n, rfl⟩ : ∃ k, n = k + 1 := ⟨n - 1, by omega⟩
    have hpq : p = q := by omega
    subst hpq hM
    refine wl_en ?_
    have e2 : (si M 0 14 (nI p)).1 0 13 = nI e := by rw [si_ne (Or.inr (by decide))]; exact h2
    have e3 : (si M 0 14 (nI p)).1 0 14 = nI p := si_at
    have e4 : (si M 0 14 (nI p)).1 11 p = M.1 11 p := si_ne (Or.inl (by decide))
    show l_X8_next_0 (si M 0 14 (nI p)) = _
    unfold l_X8_next_0
    rw [e3]
    by_cases hz : e ≤ p
    · rw [m_byteOut he e2 hz (by omega), ob_some, if_neg (by decide), ob_some, if_neg (by decide)]
    · have hns : ¬ wsP (M.1 11 p) := by rcases hs with z | z; exact absurd z (by omega); exact z
      rw [m_byteIn he e2 (by omega), e4, ob_some, if_neg (fun z => hns (Or.inl z)), ob_some, if_neg (fun z => hns (Or.inr z))]
  | succ d ih =>
    intro p n M1 hM q hq hqe hw hs hn
    obtain ⟨n, rfl⟩ : ∃ k, n = k + 1 := ⟨n - 1, by omega⟩
    subst hM
    have e2 : (si M 0 14 (nI p)).1 0 13 = nI e := by rw [si_ne (Or.inr (by decide))]; exact h2
    have e3 : (si M 0 14 (nI p)).1 0 14 = nI p := si_at
    have e4 : (si M 0 14 (nI p)).1 11 p = M.1 11 p := si_ne (Or.inl (by decide))
    have hwp := hw p (by omega) (by omega)
    have st : l_X8_next_0 (si M 0 14 (nI p)) = some (.inl (si M 0 14 (nI (p + 1)))) := by
      unfold l_X8_next_0 b_X8_next_26
      rw [e3, m_byteIn he e2 (by omega), e4, nI_1, si_si, ob_some, ob_some]
      simp only [lt]
      by_cases z : M.1 11 p = 32
      · rw [if_pos z]
      · rw [if_neg z, if_pos (by rcases hwp with y | y; exact absurd y z; exact y)]
    exact (wl_st (f := fun t : RowS => l_X8_next_0 t) (s := si M 0 14 (nI p)) st).trans (ih (p + 1) n _ rfl q (by omega) hqe (fun k k1 k2 => hw k (by omega) k2) hs (by omega))
theorem m_letters (he : e ≤ 600) (h2 : M.1 0 13 = nI e) {s : Nat} (h15 : M.1 0 15 = nI s) : ∀ d p n (M1 : RowS), s ≤ p → M1 = si (sl M 0 18 (lN (hN (fun i => (M.1 11 (s + i)).toInt.toNat - 96) (min (p - s) 10)))) 0 14 (nI p) → ∀ q, p + d = q → q ≤ e → (∀ k, s ≤ k → k < q → f_X8_isLetter (M.1 11 k) = true) → (q = e ∨ ¬ f_X8_isLetter (M.1 11 q) = true) → d < n → wloop (fun t : RowS => l_X8_readsWord_5 t) n M1 = some (si (sl M 0 18 (lN (hN (fun i => (M.1 11 (s + i)).toInt.toNat - 96) (min (q - s) 10)))) 0 14 (nI q)) := by
  intro d
  induction d with
  | zero =>
    intro p n M1 hsp hM q hq hqe hw hs hn
    obtain ⟨n, rfl⟩ : ∃ k, n = k + 1 := ⟨n - 1, by omega⟩
    have hpq : p = q := by omega
    subst hpq
    refine wl_en ?_
    have e2 : M1.1 0 13 = nI e := by rw [hM, si_ne (Or.inr (by decide)), sl_1]; exact h2
    have e3 : M1.1 0 14 = nI p := by rw [hM]; exact si_at
    have e4 : M1.1 11 p = M.1 11 p := by rw [hM, si_ne (Or.inl (by decide)), sl_1]
    rw [← hM]
    show l_X8_readsWord_5 M1 = _
    unfold l_X8_readsWord_5
    rw [e3]
    by_cases hz : e ≤ p
    · rw [m_byteOut he e2 hz (by omega), ob_some, lt_eq, if_neg (by decide)]
    · have hns : ¬ f_X8_isLetter (M.1 11 p) = true := by rcases hs with z | z; exact absurd z (by omega); exact z
      rw [m_byteIn he e2 (by omega), e4, ob_some, lt_eq, if_neg hns]
  | succ d ih =>
    intro p n M1 hsp hM q hq hqe hw hs hn
    obtain ⟨n, rfl⟩ : ∃ k, n = k + 1 := ⟨n - 1, by omega⟩
    have e2 : M1.1 0 13 = nI e := by rw [hM, si_ne (Or.inr (by decide)), sl_1]; exact h2
    have e3 : M1.1 0 14 = nI p := by rw [hM]; exact si_at
    have e4 : M1.1 11 p = M.1 11 p := by rw [hM, si_ne (Or.inl (by decide)), sl_1]
    have e15 : M1.1 0 15 = nI s := by rw [hM, si_ne (Or.inr (by decide)), sl_1]; exact h15
    have e18 : M1.2 0 18 = lN (hN (fun i => (M.1 11 (s + i)).toInt.toNat - 96) (min (p - s) 10)) := by rw [hM, si_2]; exact sl_at
    have hwp := hw p hsp (by omega)
    have hv := letter_v hwp
    have st : l_X8_readsWord_5 M1 = some (.inl (si (sl M 0 18 (lN (hN (fun i => (M.1 11 (s + i)).toInt.toNat - 96) (min (p + 1 - s) 10)))) 0 14 (nI (p + 1)))) := by
      unfold l_X8_readsWord_5 b_X8_readsWord_60
      rw [e3, m_byteIn he e2 (by omega), e4, ob_some, lt_eq, if_pos hwp, e15, pk_sub hsp, show (10 : Int32) = nI 10 from rfl]
      by_cases h10 : 10 ≤ p - s
      · rw [if_pos (by rw [nI_leI (by omega) (by omega)]; exact h10), nI_1, lt_eq, hM, si_si, show min (p + 1 - s) 10 = min (p - s) 10 by omega]
      · have ex : ((27 * M1.2 0 18) + (M.1 11 p).toInt64) - 96 = lN (hN (fun i => (M.1 11 (s + i)).toInt.toNat - 96) (min (p + 1 - s) 10)) := by
          obtain ⟨b, hb, hb2⟩ : ∃ b : Nat, (97 ≤ b ∧ b ≤ 122) ∧ M.1 11 p = nI b := ⟨(M.1 11 p).toInt.toNat, by omega, gI_of (by omega)⟩
          rw [e18, hb2, nI_l (by omega), show (27 : Int64) = lN 27 from rfl, lN_mul, lN_add, show (96 : Int64) = lN 96 from rfl, lN_sub (by omega), show min (p + 1 - s) 10 = (p - s) + 1 by omega, show min (p - s) 10 = p - s by omega, hN, show s + (p - s) = p by omega, hb2, nI_toInt (by omega)]
          congr 1
          omega
        rw [if_neg (by rw [nI_leI (by omega) (by omega)]; exact h10), if_pos (by rw [nI_toInt (by omega)]; omega), nI_clamp (by omega), e4, ex]
        have e3' : ∀ v, (sl M1 0 18 v).1 0 14 = nI p := fun v => by rw [sl_1]; exact e3
        rw [lt_eq, e3', nI_1, lt_eq, hM]
        congr 2
        unfold si sl
        simp only [va_up_self, up_up]
    exact (wl_st (f := fun t : RowS => l_X8_readsWord_5 t) (s := M1) st).trans (ih (p + 1) n _ (by omega) rfl q (by omega) hqe hw hs (by omega))
theorem m_digits (he : e ≤ 600) (h2 : M.1 0 13 = nI e) {s : Nat} : ∀ d p n (M1 : RowS), s ≤ p → M1 = si (si M 0 17 (nI (numF (fun i => (M.1 11 (s + i)).toInt.toNat - 48) (p - s)))) 0 14 (nI p) → ∀ q, p + d = q → q ≤ e → (∀ k, s ≤ k → k < q → f_X8_isFigure (M.1 11 k) = true) → (q = e ∨ ¬ f_X8_isFigure (M.1 11 q) = true) → d < n → wloop (fun t : RowS => l_X8_readsNumber_5 t) n M1 = some (si (si M 0 17 (nI (numF (fun i => (M.1 11 (s + i)).toInt.toNat - 48) (q - s)))) 0 14 (nI q)) := by
  intro d
  induction d with
  | zero =>
    intro p n M1 hsp hM q hq hqe hw hs hn
    obtain ⟨n, rfl⟩ : ∃ k, n = k + 1 := ⟨n - 1, by omega⟩
    have hpq : p = q := by omega
    subst hpq
    refine wl_en ?_
    have e2 : M1.1 0 13 = nI e := by rw [hM, si_ne (Or.inr (by decide)), si_ne (Or.inr (by decide))]; exact h2
    have e3 : M1.1 0 14 = nI p := by rw [hM]; exact si_at
    have e4 : M1.1 11 p = M.1 11 p := by rw [hM, si_ne (Or.inl (by decide)), si_ne (Or.inl (by decide))]
    rw [← hM]
    show l_X8_readsNumber_5 M1 = _
    unfold l_X8_readsNumber_5
    rw [e3]
    by_cases hz : e ≤ p
    · rw [m_byteOut he e2 hz (by omega), ob_some, lt_eq, if_neg (by decide)]
    · have hns : ¬ f_X8_isFigure (M.1 11 p) = true := by rcases hs with z | z; exact absurd z (by omega); exact z
      rw [m_byteIn he e2 (by omega), e4, ob_some, lt_eq, if_neg hns]
  | succ d ih =>
    intro p n M1 hsp hM q hq hqe hw hs hn
    obtain ⟨n, rfl⟩ : ∃ k, n = k + 1 := ⟨n - 1, by omega⟩
    have e2 : M1.1 0 13 = nI e := by rw [hM, si_ne (Or.inr (by decide)), si_ne (Or.inr (by decide))]; exact h2
    have e3 : M1.1 0 14 = nI p := by rw [hM]; exact si_at
    have e4 : M1.1 11 p = M.1 11 p := by rw [hM, si_ne (Or.inl (by decide)), si_ne (Or.inl (by decide))]
    have e17 : M1.1 0 17 = nI (numF (fun i => (M.1 11 (s + i)).toInt.toNat - 48) (p - s)) := by rw [hM, si_ne (Or.inr (by decide))]; exact si_at
    have hwp := hw p hsp (by omega)
    have hv := digit_v hwp
    have hb := numF_bd (f := fun i => (M.1 11 (s + i)).toInt.toNat - 48) (L := p - s) (fun i hi => by have := digit_v (hw (s + i) (by omega) (by omega)); show (M.1 11 (s + i)).toInt.toNat - 48 ≤ 9; omega) (p - s) (Nat.le_refl _)
    have en : numF (fun i => (M.1 11 (s + i)).toInt.toNat - 48) (p + 1 - s) = if numF (fun i => (M.1 11 (s + i)).toInt.toNat - 48) (p - s) ≤ 9999999 then 10 * numF (fun i => (M.1 11 (s + i)).toInt.toNat - 48) (p - s) + ((M.1 11 p).toInt.toNat - 48) else numF (fun i => (M.1 11 (s + i)).toInt.toNat - 48) (p - s) := by
      rw [show p + 1 - s = (p - s) + 1 by omega, numF, show s + (p - s) = p by omega]
    have eM : ∀ v, si (si M1 0 17 v) 0 14 (nI (p + 1)) = si (si M 0 17 v) 0 14 (nI (p + 1)) := by
      intro v
      rw [hM]
      unfold si
      simp only [va_up_self, up_up]
      congr 2
      funext k
      unfold va_up
      by_cases k3 : k = 14
      · subst k3; rfl
      · by_cases k6 : k = 17
        · subst k6; rfl
        · simp only [if_neg k3, if_neg k6]
    have e3' : ∀ v, (si M1 0 17 v).1 0 14 = nI p := fun v => by rw [si_ne (Or.inr (by decide))]; exact e3
    have st : l_X8_readsNumber_5 M1 = some (.inl (si (si M 0 17 (nI (numF (fun i => (M.1 11 (s + i)).toInt.toNat - 48) (p + 1 - s)))) 0 14 (nI (p + 1)))) := by
      unfold l_X8_readsNumber_5 b_X8_readsNumber_56
      rw [e3, m_byteIn he e2 (by omega), e4, ob_some, lt_eq, if_pos hwp, e17]
      rw [en]
      generalize numF (fun i => (M.1 11 (s + i)).toInt.toNat - 48) (p - s) = v at hb hM
      by_cases hq9 : v ≤ 9999999
      · have ex : ((10 * nI v) + M.1 11 p) - 48 = nI (10 * v + ((M.1 11 p).toInt.toNat - 48)) := by
          apply i32_eq
          have x1 : (10 * nI v).toInt = 10 * (v : Int) := by rw [i32_mul (by rw [nI_toInt (by omega), show (10 : Int32).toInt = 10 from rfl]; omega), nI_toInt (by omega)]; rfl
          have x2 : ((10 * nI v) + M.1 11 p).toInt = 10 * (v : Int) + (M.1 11 p).toInt := by rw [i32_add (by rw [x1]; omega), x1]
          rw [i32_sub (by rw [x2, show (48 : Int32).toInt = 48 from rfl]; omega), x2, nI_toInt (by omega), show (48 : Int32).toInt = 48 from rfl]
          omega
        rw [if_pos (by rw [show (9999999 : Int32) = nI 9999999 from rfl, nI_leI (by omega) (by omega)]; exact hq9), if_pos hq9, if_pos (by rw [nI_toInt (by omega)]; omega), nI_clamp (by omega), e4, ex]
        simp only [lt, e3', nI_1, eM]
      · rw [if_neg (by rw [show (9999999 : Int32) = nI 9999999 from rfl, nI_leI (by omega) (by omega)]; exact hq9), if_neg hq9]
        simp only [lt, e3', nI_1, eM]
    exact (wl_st (f := fun t : RowS => l_X8_readsNumber_5 t) (s := M1) st).trans (ih (p + 1) n _ (by omega) rfl q (by omega) hqe hw hs (by omega))
theorem m_adv {p : Nat} (he : e ≤ 600) (hp : p ≤ e) (h2 : M.1 0 13 = nI e) (h3 : M.1 0 14 = nI p) : ∃ M' q r, f_X8_next 1000 M = some M' ∧ MAdv e p M M' q r := by
  obtain ⟨q, q1, q2, q3, q4⟩ := ex_stop (e := e) (fun k => wsP (M.1 11 k)) (e - p) p (by omega)
  have sk := m_skip he h2 (q - p) p 1000 M (si_id h3).symm q (by omega) q2 q3 q4 (by omega)
  obtain ⟨Mq, hMq⟩ : ∃ Mq, Mq = si (si M 0 14 (nI q)) 0 15 (nI q) := ⟨_, rfl⟩
  have a2 : Mq.1 0 13 = nI e := by rw [hMq, si_ne (Or.inr (by decide)), si_ne (Or.inr (by decide))]; exact h2
  have a3 : Mq.1 0 14 = nI q := by rw [hMq, si_ne (Or.inr (by decide))]; exact si_at
  have a4 : Mq.1 0 15 = nI q := by rw [hMq]; exact si_at
  have ac : ∀ c, c ≠ 0 → Mq.1 c = M.1 c := fun c hc => by rw [hMq]; unfold si; simp only [va_up_ne _ _ hc]
  have al : Mq.2 = M.2 := by rw [hMq]; rfl
  have ak : ∀ k, k ≠ 14 → k ≠ 15 → Mq.1 0 k = M.1 0 k := fun k k3 k4 => by rw [hMq, si_ne (Or.inr k4), si_ne (Or.inr k3)]
  have ab : Mq.1 11 = M.1 11 := ac 11 (by decide)
  have q4' : q = e ∨ ¬ wsP (M.1 11 q) := q4
  unfold f_X8_next
  rw [sk, ob_some]
  unfold b_X8_next_39
  rw [show (si M 0 14 (nI q)).1 0 14 = nI q from si_at, ← hMq]
  simp only [lt, a3, a2, ab]
  by_cases hqe : q < e
  · rw [if_pos (nI_lt hqe (by omega)), if_pos (by rw [nI_toInt (by omega)]; omega), nI_clamp (by omega)]
    by_cases hL : f_X8_isLetter (M.1 11 q) = true
    · obtain ⟨r, r1, r2, r3, r4⟩ := ex_stop (e := e) (fun k => f_X8_isLetter (M.1 11 k) = true) (e - q) q (by omega)
      have hqr : q < r := by
        by_cases z : q < r
        · exact z
        · have : r = q := by omega
          subst this
          rcases r4 with y | y
          · omega
          · exact absurd hL y
      have e5 : sl Mq 0 18 0 = si (sl Mq 0 18 (lN (hN (fun i => (Mq.1 11 (q + i)).toInt.toNat - 96) (min (q - q) 10)))) 0 14 (nI q) := by
        rw [Nat.sub_self]
        exact (si_id (M := sl Mq 0 18 0) (by rw [sl_1]; exact a3)).symm
      have lt_ := m_letters (M := Mq) he a2 (s := q) a4 (r - q) q 1000 _ (Nat.le_refl _) e5 r (by omega) r2 (fun k k1 k2 => by rw [ab]; exact r3 k k1 k2) (by rw [ab]; exact r4) (by omega)
      have hr : f_X8_readsWord 1000 Mq = some (si (si (sl Mq 0 18 (lN (hN (fun i => (Mq.1 11 (q + i)).toInt.toNat - 96) (min (r - q) 10)))) 0 14 (nI r)) 0 16 1) := by
        unfold f_X8_readsWord
        rw [lt_eq, lt_, ob_some]
        rfl
      rw [if_pos hL, hr, ob_some]
      refine ⟨_, q, r, rfl, fun c hc => ?_, fun c hc => ?_, fun k k3 k4 k5 k6 => by rw [si_ne (Or.inr k5), si_ne (Or.inr k3), sl_1]; exact ak k k3 k4, by rw [si_ne (Or.inr (by decide))]; exact si_at, by rw [si_ne (Or.inr (by decide)), si_ne (Or.inr (by decide)), sl_1]; exact a4, q1, by omega, r2, q3, q4', Or.inr (Or.inl ⟨hqe, hL, si_at, hqr, r3, r4, ?_⟩)⟩
      · rw [← ac c hc]; unfold si; simp only [va_up_ne _ _ hc]; rfl
      · rw [← al]; unfold sl si; simp only [va_up_ne _ _ hc]
      · rw [si_2, si_2, sl_at, ab]
    · rw [if_neg hL, if_pos (by rw [nI_toInt (by omega)]; omega)]
      by_cases hD : f_X8_isFigure (M.1 11 q) = true
      · obtain ⟨r, r1, r2, r3, r4⟩ := ex_stop (e := e) (fun k => f_X8_isFigure (M.1 11 k) = true) (e - q) q (by omega)
        have hqr : q < r := by
          by_cases z : q < r
          · exact z
          · have : r = q := by omega
            subst this
            rcases r4 with y | y
            · omega
            · exact absurd hD y
        have e5 : si Mq 0 17 0 = si (si Mq 0 17 (nI (numF (fun i => (Mq.1 11 (q + i)).toInt.toNat - 48) (q - q)))) 0 14 (nI q) := by
          rw [Nat.sub_self]
          exact (si_id (M := si Mq 0 17 0) (by rw [si_ne (Or.inr (by decide))]; exact a3)).symm
        have dg := m_digits (M := Mq) he a2 (s := q) (r - q) q 1000 _ (Nat.le_refl _) e5 r (by omega) r2 (fun k k1 k2 => by rw [ab]; exact r3 k k1 k2) (by rw [ab]; exact r4) (by omega)
        have hr : f_X8_readsNumber 1000 Mq = some (si (si (si Mq 0 17 (nI (numF (fun i => (Mq.1 11 (q + i)).toInt.toNat - 48) (r - q)))) 0 14 (nI r)) 0 16 2) := by
          unfold f_X8_readsNumber
          rw [lt_eq, dg, ob_some]
          rfl
        rw [if_pos hD, hr, ob_some]
        refine ⟨_, q, r, rfl, fun c hc => ?_, fun c hc => ?_, fun k k3 k4 k5 k6 => by rw [si_ne (Or.inr k5), si_ne (Or.inr k3), si_ne (Or.inr k6)]; exact ak k k3 k4, by rw [si_ne (Or.inr (by decide))]; exact si_at, by rw [si_ne (Or.inr (by decide)), si_ne (Or.inr (by decide)), si_ne (Or.inr (by decide))]; exact a4, q1, by omega, r2, q3, q4', Or.inr (Or.inr (Or.inl ⟨hqe, hL, hD, si_at, hqr, r3, r4, ?_⟩))⟩
        · rw [← ac c hc]; unfold si; simp only [va_up_ne _ _ hc]
        · rw [← al]; rfl
        · rw [si_ne (Or.inr (by decide)), si_ne (Or.inr (by decide)), si_at, ab]
      · rw [if_neg hD]
        have x3 : (si Mq 0 16 3).1 0 14 = nI q := by rw [si_ne (Or.inr (by decide))]; exact a3
        rw [x3, nI_1]
        refine ⟨_, q, q + 1, rfl, fun c hc => ?_, fun c hc => ?_, fun k k3 k4 k5 k6 => by rw [si_ne (Or.inr k3), si_ne (Or.inr k5)]; exact ak k k3 k4, si_at, by rw [si_ne (Or.inr (by decide)), si_ne (Or.inr (by decide))]; exact a4, q1, by omega, by omega, q3, q4', Or.inr (Or.inr (Or.inr ⟨hqe, hL, hD, by rw [si_ne (Or.inr (by decide))]; exact si_at, rfl⟩))⟩
        · rw [← ac c hc]; unfold si; simp only [va_up_ne _ _ hc]
        · rw [← al]; rfl
  · have : q = e := by omega
    subst this
    rw [if_neg (nI_nlt (Nat.le_refl _) (by omega))]
    refine ⟨_, q, q, rfl, fun c hc => ?_, fun c hc => ?_, fun k k3 k4 k5 k6 => by rw [si_ne (Or.inr k5)]; exact ak k k3 k4, by rw [si_ne (Or.inr (by decide))]; exact a3, by rw [si_ne (Or.inr (by decide))]; exact a4, q1, Nat.le_refl _, q2, q3, q4, Or.inl ⟨rfl, rfl, si_at⟩⟩
    · rw [← ac c hc]; unfold si; simp only [va_up_ne _ _ hc]
    · rw [← al]; rfl
end MADV
