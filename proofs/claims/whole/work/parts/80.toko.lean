/-! TOKENS 4: words -/
def LW (i L : Nat) (t : Int64) : Prop := (f_J0_length_8abf5 i = nI L ∧ L ≤ 10) ∧ (∀ j, j < L → f_J0_charAt_5068e i (nI j) = some (zch i j) ∧ 97 ≤ (zch i j).toInt ∧ (zch i j).toInt ≤ 122) ∧ lN (hN (fun j => (zch i j).toInt.toNat - 96) L) = t
theorem hN_bd {f : Nat → Nat} : ∀ n, n ≤ 10 → (∀ i, i < n → f i ≤ 26) → hN f n < 27 ^ n := by
  intro n
  induction n with
  | zero => intro _ _; exact Nat.zero_lt_succ _
  | succ n ih =>
    intro hn h
    have h1 := ih (by omega) (fun i hi => h i (by omega))
    have h2 := h n (by omega)
    have h3 : (27 : Nat) ^ (n + 1) = 27 ^ n * 27 := Nat.pow_succ _ _
    unfold hN
    omega
theorem hN_inj {f g : Nat → Nat} : ∀ n m, (∀ i, i < n → 1 ≤ f i ∧ f i ≤ 26) → (∀ i, i < m → 1 ≤ g i ∧ g i ≤ 26) → hN f n = hN g m → n = m ∧ ∀ i, i < n → f i = g i := by
  intro n
  induction n with
  | zero =>
    intro m hf hg he
    cases m with
    | zero => exact ⟨rfl, fun i hi => by omega⟩
    | succ m =>
      have := hg m (by omega)
      unfold hN at he
      omega
  | succ n ih =>
    intro m hf hg he
    cases m with
    | zero =>
      have := hf n (by omega)
      unfold hN at he
      omega
    | succ m =>
      have h1 := hf n (by omega)
      have h2 := hg m (by omega)
      rw [hN, hN] at he
      obtain ⟨e1, e2⟩ := ih m (fun i hi => hf i (by omega)) (fun i hi => hg i (by omega)) (by omega)
      subst e1
      refine ⟨rfl, fun i hi => ?_⟩
      by_cases z : i = n
      · subst z; omega
      · exact e2 i (by omega)
theorem hN_congr {f g : Nat → Nat} : ∀ n, (∀ i, i < n → f i = g i) → hN f n = hN g n := by
  intro n
  induction n with
  | zero => intro _; rfl
  | succ n ih =>
    intro h
    unfold hN
    rw [ih (fun i hi => h i (by omega)), h n (by omega)]
theorem lN_cg {a b : Nat} (ha : a < 1000000000000000) (hb : b < 1000000000000000) (h : lN a = lN b) : a = b := by
  have h1 := congrArg Int64.toInt h
  have ea : (lN a).toInt = (a : Int) := lg_ofNat_toInt (by omega)
  have eb : (lN b).toInt = (b : Int) := lg_ofNat_toInt (by omega)
  rw [ea, eb] at h1
  omega
theorem c_isw0 {G : GlbS} {i n : Nat} {z : Int32} (hn : 0 < n) : wloop (fun t : Int32 × Int32 => l_X5_isWord_32 G i t.1 t.2) n (0, z) = some 0 := by
  obtain ⟨n, rfl⟩ : ∃ k, n = k + 1 := ⟨n - 1, by omega⟩
  refine wl_en (f := fun t : Int32 × Int32 => l_X5_isWord_32 G i t.1 t.2) (s := (0, z)) ?_
  show l_X5_isWord_32 G i 0 z = _
  unfold l_X5_isWord_32
  rw [lt_eq]
  by_cases c : f_J0_length_8abf5 i ≤ z
  · rw [if_pos c]
  · rw [if_neg c, if_pos rfl]
theorem c_isw {G : GlbS} {i L s : Nat} {t : Int64} (hW : LW i L t) (h4 : G 3 4 = nI s) (hs : s + L ≤ 600) : ∀ d k n, k + d = L → d + 1 < n → ∃ v, wloop (fun t : Int32 × Int32 => l_X5_isWord_32 G i t.1 t.2) n (1, nI k) = some v ∧ ((v = 1 ∧ ∀ j, k ≤ j → j < L → G 4 (s + j) = zch i j) ∨ (v = 0 ∧ ∃ j, k ≤ j ∧ j < L ∧ ¬ G 4 (s + j) = zch i j)) := by
  obtain ⟨⟨w1, w2⟩, w3, w4⟩ := hW
  intro d
  induction d with
  | zero =>
    intro k n hk hn
    obtain ⟨n, rfl⟩ : ∃ k, n = k + 1 := ⟨n - 1, by omega⟩
    refine ⟨1, ?_, Or.inl ⟨rfl, fun j h1 h2 => by omega⟩⟩
    refine wl_en (f := fun t : Int32 × Int32 => l_X5_isWord_32 G i t.1 t.2) (s := (1, nI k)) ?_
    show l_X5_isWord_32 G i 1 (nI k) = _
    unfold l_X5_isWord_32
    rw [lt_eq, w1, if_pos (by rw [nI_leI (by omega) (by omega)]; omega)]
  | succ d ih =>
    intro k n hk hn
    obtain ⟨n, rfl⟩ : ∃ k, n = k + 1 := ⟨n - 1, by omega⟩
    obtain ⟨h5, h6, h7⟩ := w3 k (by omega)
    have st : l_X5_isWord_32 G i 1 (nI k) = if G 4 (s + k) = zch i k then some (.inl (1, nI (k + 1))) else some (.inl (0, nI (k + 1))) := by
      unfold l_X5_isWord_32 b_X5_isWord_86 b_X5_isWord_87
      rw [lt_eq, w1, if_neg (by rw [nI_leI (by omega) (by omega)]; omega), if_neg (by decide), lt_eq, h4, lnI_add (by omega), if_neg (nI_pos (by omega)), show (600 : Int32) = nI 600 from rfl, if_neg (by rw [nI_leI (by omega) (by omega)]; omega), h5, ob_some, nI_clamp (by omega), lt_eq, lt_eq, nI_1]
    by_cases c : G 4 (s + k) = zch i k
    · rw [if_pos c] at st
      obtain ⟨v, v1, v2⟩ := ih (k + 1) n (by omega) (by omega)
      refine ⟨v, (wl_st (f := fun t : Int32 × Int32 => l_X5_isWord_32 G i t.1 t.2) (s := (1, nI k)) st).trans v1, ?_⟩
      rcases v2 with ⟨x1, x2⟩ | ⟨x1, j, x2, x3, x4⟩
      · refine Or.inl ⟨x1, fun j h1 h2 => ?_⟩
        by_cases z : j = k
        · subst z; exact c
        · exact x2 j (by omega) h2
      · exact Or.inr ⟨x1, j, by omega, x3, x4⟩
    · rw [if_neg c] at st
      exact ⟨0, (wl_st (f := fun t : Int32 × Int32 => l_X5_isWord_32 G i t.1 t.2) (s := (1, nI k)) st).trans (c_isw0 (by omega)), Or.inr ⟨rfl, k, Nat.le_refl _, by omega, c⟩⟩
theorem c_word {e s p i L : Nat} {t : Int64} {G : GlbS} (hW : LW i L t) (h : CP e s p G) : ∃ b, f_X5_isWord 1000 G i = some b ∧ (b = true ↔ G 3 5 = 1 ∧ p - s = L ∧ ∀ j, j < L → G 4 (s + j) = zch i j) := by
  have hW0 := hW
  obtain ⟨⟨w1, w2⟩, w3, w4⟩ := hW0
  obtain ⟨a2, a3, a4, a5, a6, a7⟩ := h
  unfold f_X5_isWord b_X5_isWord_28 b_X5_isWord_29 b_X5_isWord_94
  rw [c_isw0 (by omega), ob_some, if_pos (Or.inl rfl)]
  by_cases c1 : G 3 5 = 1
  · rw [if_pos c1, lt_eq, w1, a3, a4, pk_sub a5]
    by_cases c2 : p - s = L
    · rw [if_pos (by rw [c2])]
      obtain ⟨v, v1, v2⟩ := c_isw hW a4 (by omega) L 0 1000 (by omega) (by omega)
      have v1 : wloop (fun t : Int32 × Int32 => l_X5_isWord_32 G i t.1 t.2) 1000 (1, 0) = some v := v1
      rw [v1, ob_some]
      rcases v2 with ⟨x1, x2⟩ | ⟨x1, j, x2, x3, x4⟩
      · subst x1
        exact ⟨true, if_pos (Or.inr rfl), fun _ => ⟨c1, c2, fun j hj => x2 j (by omega) hj⟩, fun _ => rfl⟩
      · subst x1
        exact ⟨false, if_pos (Or.inl rfl), fun z => (by cases z), fun z => absurd (z.2.2 j x3) x4⟩
    · rw [if_neg (fun z => c2 (by
        have := congrArg Int32.toInt z
        rw [nI_toInt (by omega), nI_toInt (by omega)] at this
        omega))]
      exact ⟨_, rfl, fun z => absurd z (by decide), fun z => absurd z.2.1 c2⟩
  · rw [if_neg c1]
    exact ⟨_, rfl, fun z => absurd z (by decide), fun z => absurd z.1 c1⟩
theorem m_word {e s p i L : Nat} {t : Int64} {G : GlbS} {M : RowS} (hW : LW i L t) (h : TS e s p G M) : f_X8_isWord M t = true ↔ G 3 5 = 1 ∧ p - s = L ∧ ∀ j, j < L → G 4 (s + j) = zch i j := by
  obtain ⟨⟨w1, w2⟩, w3, w4⟩ := hW
  obtain ⟨⟨a2, a3, a4, a5, a6, a7⟩, ⟨b1, b2, b3, b4⟩, ⟨d1, d2, d3⟩, hB, hK⟩ := h
  unfold f_X8_isWord f_X8_isGood
  rw [b2, if_pos rfl, lt_eq, if_pos rfl, d2, d3, pk_sub a5, show (10 : Int32) = nI 10 from rfl]
  rcases hK with ⟨k1, k2, k3⟩ | ⟨k1, k2, k3, k4, k5⟩ | ⟨k1, k2, k3, k4⟩ | ⟨k1, k2, k3⟩
  · rw [k1, k2, if_neg (by decide)]
    exact ⟨fun z => (by cases z), fun z => absurd z.1 (by decide)⟩
  · rw [k1, k2, if_pos rfl]
    by_cases c : 10 < p - s
    · rw [if_pos (nI_lt c (by omega))]
      exact ⟨fun z => (by cases z), fun z => by omega⟩
    · rw [if_neg (nI_nlt (by omega) (by omega)), k5, show min (p - s) 10 = p - s by omega, ← w4]
      have hv : ∀ j, j < p - s → 97 ≤ (M.1 11 (s + j)).toInt ∧ (M.1 11 (s + j)).toInt ≤ 122 := fun j hj => letter_v (k4 (s + j) (by omega) (by omega))
      have hc : ∀ j, j < p - s → G 4 (s + j) = M.1 11 (s + j) := fun j hj => by
        have hb := hB (s + j) (by omega)
        rw [hb.2]
        rcases by_one hb.1 with ⟨x, y⟩ | ⟨x, y⟩
        · exact x
        · have := hv j hj; omega
      have pw : ∀ n, n ≤ 10 → (27 : Nat) ^ n < 1000000000000000 := fun n hn => Nat.lt_of_le_of_lt (Nat.pow_le_pow_right (by decide) hn) (by decide)
      have f1 := hN_bd (f := fun i => (M.1 11 (s + i)).toInt.toNat - 96) (p - s) (by omega) (fun j hj => by have := hv j hj; show (M.1 11 (s + j)).toInt.toNat - 96 ≤ 26; omega)
      have f2 := hN_bd (f := fun j => (zch i j).toInt.toNat - 96) L w2 (fun j hj => by have := (w3 j hj).2; show (zch i j).toInt.toNat - 96 ≤ 26; omega)
      have p1 := pw (p - s) (by omega)
      have p2 := pw L w2
      by_cases q : p - s = L ∧ ∀ j, j < L → G 4 (s + j) = zch i j
      · have e1 : hN (fun i => (M.1 11 (s + i)).toInt.toNat - 96) (p - s) = hN (fun j => (zch i j).toInt.toNat - 96) L := by
          rw [← q.1]
          exact hN_congr _ (fun j hj => by show (M.1 11 (s + j)).toInt.toNat - 96 = (zch i j).toInt.toNat - 96; rw [← hc j hj, q.2 j (by omega)])
        rw [e1, if_pos rfl]
        exact ⟨fun _ => ⟨rfl, q⟩, fun _ => rfl⟩
      · rw [if_neg]
        · exact ⟨fun z => (by cases z), fun z => absurd z.2 q⟩
        · intro z
          obtain ⟨y1, y2⟩ := hN_inj (p - s) L (fun j hj => by have := hv j hj; show 1 ≤ (M.1 11 (s + j)).toInt.toNat - 96 ∧ (M.1 11 (s + j)).toInt.toNat - 96 ≤ 26; omega) (fun j hj => by have := (w3 j hj).2; show 1 ≤ (zch i j).toInt.toNat - 96 ∧ (zch i j).toInt.toNat - 96 ≤ 26; omega) (lN_cg (by omega) (by omega) z)
          refine q ⟨y1, fun j hj => ?_⟩
          have y3 : (M.1 11 (s + j)).toInt.toNat - 96 = (zch i j).toInt.toNat - 96 := y2 j (by omega)
          have v1 := hv j (by omega)
          have v2 := (w3 j hj).2
          rw [hc j (by omega)]
          apply i32_eq
          omega
  · rw [k1, k2, if_neg (by decide)]
    exact ⟨fun z => (by cases z), fun z => absurd z.1 (by decide)⟩
  · rw [k1, k2, if_neg (by decide)]
    exact ⟨fun z => (by cases z), fun z => absurd z.1 (by decide)⟩
theorem m_word_x {M : RowS} (h : ¬ M.1 0 19 = 0) (t : Int64) : f_X8_isWord M t = false := by
  unfold f_X8_isWord f_X8_isGood
  rw [if_neg h, lt_eq, if_neg (by decide)]
theorem t_word {e m i L : Nat} {t : Int64} {G : GlbS} {M : RowS} (hW : LW i L t) (h : TT e m G M) : ∃ b, f_X5_isWord 1000 G i = some b ∧ (M.1 0 19 = 0 → f_X8_isWord M t = b) ∧ (¬ M.1 0 19 = 0 → f_X8_isWord M t = false) := by
  rcases h with ⟨s, p, hm, h⟩ | h
  · obtain ⟨b, b1, b2⟩ := c_word hW h.1
    refine ⟨b, b1, fun _ => ?_, fun z => absurd (ts_19 (m := 0) h) z⟩
    have h3 := m_word hW h
    exact Bool.eq_iff_iff.mpr (h3.trans b2.symm)
  · obtain ⟨s, p, hp⟩ := h.1
    obtain ⟨b, b1, b2⟩ := c_word hW hp
    exact ⟨b, b1, fun z => absurd z (tx_19 h), fun z => m_word_x z t⟩
theorem lw_gauges : LW 1 6 101392390 := by unfold LW; decide +kernel
theorem lw_leg : LW 2 3 8890 := by unfold LW; decide +kernel
theorem lw_tube : LW 3 4 409028 := by unfold LW; decide +kernel
theorem lw_mark : LW 4 4 257105 := by unfold LW; decide +kernel
theorem lw_pressure : LW 5 8 174421451741 := by unfold LW; decide +kernel
