/-! TOKENS 1: the next token, on both sides -/
theorem ex_stop (W : Nat → Prop) {e : Nat} : ∀ d p, p + d = e → ∃ q, p ≤ q ∧ q ≤ e ∧ (∀ k, p ≤ k → k < q → W k) ∧ (q = e ∨ ¬ W q) := by
  intro d
  induction d with
  | zero => intro p h; exact ⟨p, by omega, by omega, fun k h1 h2 => by omega, Or.inl (by omega)⟩
  | succ d ih =>
    intro p h
    by_cases hW : W p
    · obtain ⟨q, q1, q2, q3, q4⟩ := ih (p + 1) (by omega)
      refine ⟨q, by omega, q2, fun k h1 h2 => ?_, q4⟩
      by_cases z : k = p
      · subst z; exact hW
      · exact q3 k (by omega) h2
    · exact ⟨p, by omega, by omega, fun k h1 h2 => by omega, Or.inr hW⟩
theorem stop_uniq {W W' : Nat → Prop} {e p q q' : Nat} (hW : ∀ k, k < e → (W k ↔ W' k)) (a1 : p ≤ q) (a2 : q ≤ e) (a3 : ∀ k, p ≤ k → k < q → W k) (a4 : q = e ∨ ¬ W q) (b1 : p ≤ q') (b2 : q' ≤ e) (b3 : ∀ k, p ≤ k → k < q' → W' k) (b4 : q' = e ∨ ¬ W' q') : q = q' := by
  rcases Nat.lt_trichotomy q q' with h | h | h
  · rcases a4 with z | z
    · omega
    · exact absurd ((hW q (by omega)).mpr (b3 q a1 h)) z
  · exact h
  · rcases b4 with z | z
    · omega
    · exact absurd ((hW q' (by omega)).mp (a3 q' b1 h)) z
def numF (f : Nat → Nat) : Nat → Nat
  | 0 => 0
  | n + 1 => if numF f n ≤ 9999999 then 10 * numF f n + f n else numF f n
theorem numF_bd {f : Nat → Nat} {L : Nat} (h : ∀ i, i < L → f i ≤ 9) : ∀ n, n ≤ L → numF f n < 100000000 := by
  intro n
  induction n with
  | zero => intro _; exact Nat.zero_lt_succ _
  | succ n ih =>
    intro hn
    have h1 := ih (by omega)
    have h2 := h n (by omega)
    unfold numF
    split <;> omega
theorem numF_congr {f g : Nat → Nat} : ∀ n, (∀ i, i < n → f i = g i) → numF f n = numF g n := by
  intro n
  induction n with
  | zero => intro _; rfl
  | succ n ih =>
    intro h
    unfold numF
    rw [ih (fun i hi => h i (by omega)), h n (by omega)]
def wsP (x : Int32) : Prop := x = 32 ∨ x = 10
theorem c_byteAt {G : GlbS} {k : Nat} (hk : k < 600) : f_X5_byteAt G (nI k) = G 4 k := by
  unfold f_X5_byteAt
  rw [if_neg (nI_pos (by omega)), show (600 : Int32) = nI 600 from rfl, if_neg (by rw [nI_leI (by omega) (by omega)]; omega), nI_clamp (by omega)]
theorem digit_v {x : Int32} (h : f_X5_isDigit x = true) : 48 ≤ x.toInt ∧ x.toInt ≤ 57 := by
  unfold f_X5_isDigit at h
  simp only [i32_lt, show (48 : Int32).toInt = 48 from rfl, show (57 : Int32).toInt = 57 from rfl] at h
  by_cases h1 : x.toInt < 48
  · rw [if_pos h1] at h; cases h
  · rw [if_neg h1] at h
    by_cases h2 : 57 < x.toInt
    · rw [if_pos h2] at h; cases h
    · omega
section CADV
variable {G : GlbS} {e : Nat}
theorem c_skip (he : e ≤ 600) (h2 : G 3 2 = nI e) : ∀ d p n (G1 : GlbS), G1 = sg G 3 3 (nI p) → ∀ q, p + d = q → q ≤ e → (∀ k, p ≤ k → k < q → wsP (G 4 k)) → (q = e ∨ ¬ wsP (G 4 q)) → d < n → wloop (fun t : GlbS => l_X5_advance_0 t) n G1 = some (sg G 3 3 (nI q)) := by
  intro d
  induction d with
  | zero =>
    intro p n G1 hG q hq hqe hw hs hn
    obtain ⟨n, rfl⟩ : ∃ k, n = k + 1 := ⟨n - 1, by omega⟩
    have hpq : p = q := by omega
    subst hpq hG
    refine wl_en ?_
    have e2 : (sg G 3 3 (nI p)) 3 2 = nI e := by rw [sg_ne (Or.inr (by decide))]; exact h2
    have e3 : (sg G 3 3 (nI p)) 3 3 = nI p := sg_at
    have e4 : (sg G 3 3 (nI p)) 4 = G 4 := sg_c (by decide)
    show l_X5_advance_0 (sg G 3 3 (nI p)) = _
    unfold l_X5_advance_0
    rw [e2, e3]
    by_cases hz : e ≤ p
    · rw [if_pos (by rw [nI_leI (by omega) (by omega)]; exact hz)]
    · have hns : ¬ wsP (G 4 p) := by rcases hs with z | z; exact absurd z (by omega); exact z
      rw [if_neg (by rw [nI_leI (by omega) (by omega)]; exact hz), c_byteAt (by omega), e4, lt_eq, if_neg (fun z => hns (Or.inl z)), lt_eq, if_neg (fun z => hns (Or.inr z))]
  | succ d ih =>
    intro p n G1 hG q hq hqe hw hs hn
    obtain ⟨n, rfl⟩ : ∃ k, n = k + 1 := ⟨n - 1, by omega⟩
    subst hG
    have e2 : (sg G 3 3 (nI p)) 3 2 = nI e := by rw [sg_ne (Or.inr (by decide))]; exact h2
    have e3 : (sg G 3 3 (nI p)) 3 3 = nI p := sg_at
    have e4 : (sg G 3 3 (nI p)) 4 = G 4 := sg_c (by decide)
    have hwp := hw p (by omega) (by omega)
    have eu : sg (sg G 3 3 (nI p)) 3 3 (nI (p + 1)) = sg G 3 3 (nI (p + 1)) := by
      unfold sg
      rw [va_up_self, up_up, up_up]
    have st : l_X5_advance_0 (sg G 3 3 (nI p)) = some (.inl (sg G 3 3 (nI (p + 1)))) := by
      unfold l_X5_advance_0 b_X5_advance_37
      rw [e2, e3, if_neg (by rw [nI_leI (by omega) (by omega)]; omega), c_byteAt (by omega), e4, nI_1, eu]
      simp only [lt]
      by_cases z : G 4 p = 32
      · rw [if_pos z]
      · rw [if_neg z, if_pos (by rcases hwp with y | y; exact absurd y z; exact y)]
    exact (wl_st (f := fun t : GlbS => l_X5_advance_0 t) (s := sg G 3 3 (nI p)) st).trans (ih (p + 1) n _ rfl q (by omega) hqe (fun k k1 k2 => hw k (by omega) k2) hs (by omega))
theorem c_letters (he : e ≤ 600) (h2 : G 3 2 = nI e) : ∀ d p n (G1 : GlbS), G1 = sg G 3 3 (nI p) → ∀ q, p + d = q → q ≤ e → (∀ k, p ≤ k → k < q → f_X5_isLetter (G 4 k) = true) → (q = e ∨ ¬ f_X5_isLetter (G 4 q) = true) → d < n → wloop (fun t : GlbS => l_X5_advance_101 t) n G1 = some (sg G 3 3 (nI q)) := by
  intro d
  induction d with
  | zero =>
    intro p n G1 hG q hq hqe hw hs hn
    obtain ⟨n, rfl⟩ : ∃ k, n = k + 1 := ⟨n - 1, by omega⟩
    have hpq : p = q := by omega
    subst hpq hG
    refine wl_en ?_
    have e2 : (sg G 3 3 (nI p)) 3 2 = nI e := by rw [sg_ne (Or.inr (by decide))]; exact h2
    have e3 : (sg G 3 3 (nI p)) 3 3 = nI p := sg_at
    have e4 : (sg G 3 3 (nI p)) 4 = G 4 := sg_c (by decide)
    show l_X5_advance_101 (sg G 3 3 (nI p)) = _
    unfold l_X5_advance_101
    rw [e2, e3]
    by_cases hz : e ≤ p
    · rw [if_pos (by rw [nI_leI (by omega) (by omega)]; exact hz)]
    · have hns : ¬ f_X5_isLetter (G 4 p) = true := by rcases hs with z | z; exact absurd z (by omega); exact z
      rw [if_neg (by rw [nI_leI (by omega) (by omega)]; exact hz), c_byteAt (by omega), e4, lt_eq, lt_eq, if_neg hns]
  | succ d ih =>
    intro p n G1 hG q hq hqe hw hs hn
    obtain ⟨n, rfl⟩ : ∃ k, n = k + 1 := ⟨n - 1, by omega⟩
    subst hG
    have e2 : (sg G 3 3 (nI p)) 3 2 = nI e := by rw [sg_ne (Or.inr (by decide))]; exact h2
    have e3 : (sg G 3 3 (nI p)) 3 3 = nI p := sg_at
    have e4 : (sg G 3 3 (nI p)) 4 = G 4 := sg_c (by decide)
    have hwp := hw p (by omega) (by omega)
    have eu : sg (sg G 3 3 (nI p)) 3 3 (nI (p + 1)) = sg G 3 3 (nI (p + 1)) := by
      unfold sg
      rw [va_up_self, up_up, up_up]
    have st : l_X5_advance_101 (sg G 3 3 (nI p)) = some (.inl (sg G 3 3 (nI (p + 1)))) := by
      unfold l_X5_advance_101
      rw [e2, e3, if_neg (by rw [nI_leI (by omega) (by omega)]; omega), c_byteAt (by omega), e4, nI_1, eu, lt_eq, lt_eq, if_pos hwp, lt_eq]
    exact (wl_st (f := fun t : GlbS => l_X5_advance_101 t) (s := sg G 3 3 (nI p)) st).trans (ih (p + 1) n _ rfl q (by omega) hqe (fun k k1 k2 => hw k (by omega) k2) hs (by omega))
theorem c_digits (he : e ≤ 600) (h2 : G 3 2 = nI e) {s : Nat} : ∀ d p n (G1 : GlbS), s ≤ p → G1 = sg (sg G 3 3 (nI p)) 3 6 (nI (numF (fun i => (G 4 (s + i)).toInt.toNat - 48) (p - s))) → ∀ q, p + d = q → q ≤ e → (∀ k, s ≤ k → k < q → f_X5_isDigit (G 4 k) = true) → (q = e ∨ ¬ f_X5_isDigit (G 4 q) = true) → d < n → wloop (fun t : GlbS => l_X5_advance_158 t) n G1 = some (sg (sg G 3 3 (nI q)) 3 6 (nI (numF (fun i => (G 4 (s + i)).toInt.toNat - 48) (q - s)))) := by
  intro d
  induction d with
  | zero =>
    intro p n G1 hsp hG q hq hqe hw hs hn
    obtain ⟨n, rfl⟩ : ∃ k, n = k + 1 := ⟨n - 1, by omega⟩
    have hpq : p = q := by omega
    subst hpq
    refine wl_en ?_
    have e2 : G1 3 2 = nI e := by rw [hG, sg_ne (Or.inr (by decide)), sg_ne (Or.inr (by decide))]; exact h2
    have e3 : G1 3 3 = nI p := by rw [hG, sg_ne (Or.inr (by decide))]; exact sg_at
    have e4 : G1 4 = G 4 := by rw [hG, sg_c (by decide), sg_c (by decide)]
    rw [← hG]
    show l_X5_advance_158 G1 = _
    unfold l_X5_advance_158
    rw [e2, e3]
    by_cases hz : e ≤ p
    · rw [if_pos (by rw [nI_leI (by omega) (by omega)]; exact hz)]
    · have hns : ¬ f_X5_isDigit (G 4 p) = true := by rcases hs with z | z; exact absurd z (by omega); exact z
      rw [if_neg (by rw [nI_leI (by omega) (by omega)]; exact hz), c_byteAt (by omega), e4, lt_eq, lt_eq, if_neg hns]
  | succ d ih =>
    intro p n G1 hsp hG q hq hqe hw hs hn
    obtain ⟨n, rfl⟩ : ∃ k, n = k + 1 := ⟨n - 1, by omega⟩
    have e2 : G1 3 2 = nI e := by rw [hG, sg_ne (Or.inr (by decide)), sg_ne (Or.inr (by decide))]; exact h2
    have e3 : G1 3 3 = nI p := by rw [hG, sg_ne (Or.inr (by decide))]; exact sg_at
    have e4 : G1 4 = G 4 := by rw [hG, sg_c (by decide), sg_c (by decide)]
    have e6 : G1 3 6 = nI (numF (fun i => (G 4 (s + i)).toInt.toNat - 48) (p - s)) := by rw [hG]; exact sg_at
    have hwp := hw p (by omega) (by omega)
    have hv := digit_v hwp
    have hb := numF_bd (f := fun i => (G 4 (s + i)).toInt.toNat - 48) (L := p - s) (fun i hi => by have := digit_v (hw (s + i) (by omega) (by omega)); show (G 4 (s + i)).toInt.toNat - 48 ≤ 9; omega) (p - s) (Nat.le_refl _)
    have eG : ∀ v, sg (sg G1 3 6 v) 3 3 (nI (p + 1)) = sg (sg G 3 3 (nI (p + 1))) 3 6 v := by
      intro v
      rw [hG]
      unfold sg
      simp only [va_up_self, up_up]
      congr 1
      funext k
      unfold va_up
      by_cases k3 : k = 3
      · subst k3; rfl
      · by_cases k6 : k = 6
        · subst k6; rfl
        · simp only [if_neg k3, if_neg k6]
    have en : numF (fun i => (G 4 (s + i)).toInt.toNat - 48) (p + 1 - s) = if numF (fun i => (G 4 (s + i)).toInt.toNat - 48) (p - s) ≤ 9999999 then 10 * numF (fun i => (G 4 (s + i)).toInt.toNat - 48) (p - s) + ((G 4 p).toInt.toNat - 48) else numF (fun i => (G 4 (s + i)).toInt.toNat - 48) (p - s) := by
      rw [show p + 1 - s = (p - s) + 1 by omega, numF, show s + (p - s) = p by omega]
    have st : l_X5_advance_158 G1 = some (.inl (sg (sg G 3 3 (nI (p + 1))) 3 6 (nI (numF (fun i => (G 4 (s + i)).toInt.toNat - 48) (p + 1 - s))))) := by
      unfold l_X5_advance_158 b_X5_advance_219
      have e3' : ∀ v, (sg G1 3 6 v) 3 3 = nI p := fun v => by rw [sg_ne (Or.inr (by decide))]; exact e3
      rw [e2, e3, if_neg (by rw [nI_leI (by omega) (by omega)]; omega), c_byteAt (by omega), e4, lt_eq, lt_eq, if_pos hwp, e6]
      simp only [lt, e3', nI_1, eG]
      rw [en]
      generalize numF (fun i => (G 4 (s + i)).toInt.toNat - 48) (p - s) = v at hb
      by_cases hq9 : v ≤ 9999999
      · rw [if_pos (by rw [show (9999999 : Int32) = nI 9999999 from rfl, nI_leI (by omega) (by omega)]; exact hq9), if_pos hq9]
        have ex : ((nI v * 10) + G 4 p) - 48 = nI (10 * v + ((G 4 p).toInt.toNat - 48)) := by
          apply i32_eq
          have x1 : (nI v * 10).toInt = (v : Int) * 10 := by rw [i32_mul (by rw [nI_toInt (by omega), show (10 : Int32).toInt = 10 from rfl]; omega), nI_toInt (by omega)]; rfl
          have x2 : ((nI v * 10) + G 4 p).toInt = (v : Int) * 10 + (G 4 p).toInt := by rw [i32_add (by rw [x1]; omega), x1]
          rw [i32_sub (by rw [x2, show (48 : Int32).toInt = 48 from rfl]; omega), x2, nI_toInt (by omega), show (48 : Int32).toInt = 48 from rfl]
          omega
        rw [ex]
      · rw [if_neg (by rw [show (9999999 : Int32) = nI 9999999 from rfl, nI_leI (by omega) (by omega)]; exact hq9), if_neg hq9]
    exact (wl_st (f := fun t : GlbS => l_X5_advance_158 t) (s := G1) st).trans (ih (p + 1) n _ (by omega) rfl q (by omega) hqe hw hs (by omega))
end CADV

