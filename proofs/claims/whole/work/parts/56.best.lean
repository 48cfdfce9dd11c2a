/-! CALLS 3: longest, worst, ring -/
theorem wl_ex {σ ρ : Type} {f : σ → Option (σ ⊕ ρ)} (I : Nat → σ → Prop) (Q : ρ → Prop) (N : Nat) (hs : ∀ i s, i < N → I i s → (∃ t, f s = some (.inl t) ∧ I (i + 1) t) ∨ (∃ r, f s = some (.inr r) ∧ Q r)) (he : ∀ s, I N s → ∃ r, f s = some (.inr r) ∧ Q r) : ∀ d i n s, i + d = N → d < n → I i s → ∃ r, wloop f n s = some r ∧ Q r := by
  intro d
  induction d with
  | zero =>
    intro i n s hi hn hI
    have e : i = N := by omega
    subst e
    obtain ⟨k, rfl⟩ : ∃ k, n = k + 1 := ⟨n - 1, by omega⟩
    obtain ⟨r, h1, h2⟩ := he s hI
    exact ⟨r, wl_en h1, h2⟩
  | succ d ih =>
    intro i n s hi hn hI
    obtain ⟨k, rfl⟩ : ∃ k, n = k + 1 := ⟨n - 1, by omega⟩
    rcases hs i s (by omega) hI with ⟨t, h1, h2⟩ | ⟨r, h1, h2⟩
    · obtain ⟨r, h3, h4⟩ := ih (i + 1) k t (by omega) (by omega) h2
      exact ⟨r, (wl_st h1).trans h3, h4⟩
    · exact ⟨r, wl_en h1, h2⟩
def enc : Option Nat → Int32
  | none => -1
  | some b => nI b
def bestG (f : Nat → Int32) (N : Nat → Int32) : Nat → Option Nat
  | 0 => none
  | n + 1 => if tg N n 6 = 0 then (match bestG f N n with | none => some n | some b => if f n ≤ f b then some b else some n) else bestG f N n
def gr (f : Nat → Int32) : Option Nat → Int32
  | none => -1
  | some b => f b
theorem bestG_lt {f : Nat → Int32} {N : Nat → Int32} : ∀ n b, bestG f N n = some b → b < n := by
  intro n
  induction n with
  | zero => intro b h; cases h
  | succ n ih =>
    intro b h
    unfold bestG at h
    by_cases h6 : tg N n 6 = 0
    · rw [if_pos h6] at h
      cases hb : bestG f N n with
      | none => rw [hb] at h; cases h; omega
      | some c =>
        rw [hb] at h
        simp only at h
        have := ih c hb
        by_cases hq : f n ≤ f c
        · rw [if_pos hq] at h; cases h; omega
        · rw [if_neg hq] at h; cases h; omega
    · rw [if_neg h6] at h
      have := ih b h
      omega
theorem enc_ne {b : Nat} (h : b < 100) : ¬ nI b = -1 := by
  intro q
  have := congrArg Int32.toInt q
  rw [nI_toInt (by omega)] at this
  have e : (-1 : Int32).toInt = -1 := rfl
  omega
noncomputable def aoff (N : Nat → Int32) (S : Nat → Int64) (t : Nat) : Int32 := f_X8_off0 (offS N S t)
theorem jabs_off (x : Int32) : jabs x = f_X8_off0 x := by
  unfold jabs f_X8_off0
  split
  · rfl
  · rw [Int32.zero_sub]
theorem off0_int {x : Int32} (h : -2147483647 ≤ x.toInt) : (f_X8_off0 x).toInt = (x.toInt.natAbs : Int) := by
  have e : (0 : Int32).toInt = 0 := rfl
  unfold f_X8_off0
  by_cases q : 0 ≤ x
  · rw [if_pos q]; rw [i32_le, e] at q; omega
  · rw [if_neg q]
    rw [i32_le, e] at q
    rw [← Int32.zero_sub, i32_sub (by rw [e]; have := i32_bd x; omega), e]; omega
section OK3
variable {P : RowsS} {G : GlbS} {M : RowS}
theorem ok_longest (I : Inv P G M) : OK_longest Inv P G M := by
  unfold OK_longest f_X8_longest
  have I0 : Inv P G (si M 0 0 0) := I
  simp only [lt]
  generalize si M 0 0 0 = M0 at I0 ⊢
  have g := I0.1
  have h := g.1
  have r := g.2.2.2.2.1
  have hc := cnt_le h
  have e2 : (2 : Int32).toNatClampNeg = 2 := rfl
  have en : (-1 : Int32).toInt = -1 := rfl
  have ck : wloop (fun t : Int32 × Int32 × Int32 => l_X7_longest_6 P t.1 t.2.1 t.2.2) 100 (-1, -1, 0) = some (enc (bestG (columnS (M0.1 1) (M0.2 5)) (M0.1 1) (cnt (M0.1 1)))) :=
    wl_count (f := fun t : Int32 × Int32 × Int32 => l_X7_longest_6 P t.1 t.2.1 t.2.2) (fun i => (enc (bestG (columnS (M0.1 1) (M0.2 5)) (M0.1 1) i), gr (columnS (M0.1 1) (M0.2 5)) (bestG (columnS (M0.1 1) (M0.2 5)) (M0.1 1) i), nI i)) (cnt (M0.1 1)) _ (fun i hi => by
      show l_X7_longest_6 P (enc (bestG (columnS (M0.1 1) (M0.2 5)) (M0.1 1) i)) (gr (columnS (M0.1 1) (M0.2 5)) (bestG (columnS (M0.1 1) (M0.2 5)) (M0.1 1) i)) (nI i) = _
      have hcol := column_int h g.2.1 hi
      unfold l_X7_longest_6 b_X7_longest_52
      rw [r.2.2.1, n2 h, if_neg (by rw [nI_leI (by omega) (by omega)]; omega), c_tubeAt (show i < 12 by omega)]
      simp only [lt, c_tg g hi (show 6 < 7 by decide), c_column g hi, nI_1, bestG]
      by_cases h6 : tg (M0.1 1) i 6 = 0
      · rw [if_pos h6, if_pos h6]
        cases hb : bestG (columnS (M0.1 1) (M0.2 5)) (M0.1 1) i with
        | none =>
          have : ¬ columnS (M0.1 1) (M0.2 5) i ≤ gr (columnS (M0.1 1) (M0.2 5)) none := by
            show ¬ columnS (M0.1 1) (M0.2 5) i ≤ -1
            rw [i32_le, en]; omega
          rw [if_neg this]
          rfl
        | some b =>
          show (if columnS (M0.1 1) (M0.2 5) i ≤ columnS (M0.1 1) (M0.2 5) b then _ else _) = _
          by_cases hq : columnS (M0.1 1) (M0.2 5) i ≤ columnS (M0.1 1) (M0.2 5) b
          · simp only [if_pos hq] <;> rfl
          · simp only [if_neg hq] <;> rfl
      · rw [if_neg h6, if_neg h6]) (by
      show l_X7_longest_6 P _ _ (nI (cnt (M0.1 1))) = _
      unfold l_X7_longest_6
      rw [r.2.2.1, n2 h, if_pos (by rw [nI_leI (by omega) (by omega)]; omega)]) 100 (by omega)
  have mk : wloop (fun t : Int32 × Int32 => l_X8_longest_9 100 M0 t.1 t.2) 100 (-1, 0) = some (enc (bestG (columnS (M0.1 1) (M0.2 5)) (M0.1 1) (cnt (M0.1 1)))) :=
    wl_count (f := fun t : Int32 × Int32 => l_X8_longest_9 100 M0 t.1 t.2) (fun i => (enc (bestG (columnS (M0.1 1) (M0.2 5)) (M0.1 1) i), nI i)) (cnt (M0.1 1)) _ (fun i hi => by
      show l_X8_longest_9 100 M0 (enc (bestG (columnS (M0.1 1) (M0.2 5)) (M0.1 1) i)) (nI i) = _
      unfold l_X8_longest_9 b_X8_longest_45 b_X8_longest_47
      rw [if_pos (by decide), e2, n2 h, if_neg (by rw [nI_leI (by omega) (by omega)]; omega), m_whole (by omega)]
      simp only [bestG]
      by_cases h6 : tg (M0.1 1) i 6 = 0
      · rw [if_pos h6, if_pos h6, ob_some, if_pos rfl]
        cases hb : bestG (columnS (M0.1 1) (M0.2 5)) (M0.1 1) i with
        | none =>
          show (if (-1 : Int32) = -1 then _ else _) = _
          rw [if_pos rfl]
          simp only [lt, nI_1]
          rfl
        | some b =>
          have hbi := bestG_lt i b hb
          show (if nI b = -1 then _ else ob (f_X8_columnOf 100 M0 (nI i)) fun x8 => ob (f_X8_columnOf 100 M0 (nI b)) fun x9 => _) = _
          rw [if_neg (enc_ne (by omega)), m_column h g.2.1 hi (by omega), ob_some, m_column h g.2.1 (by omega) (by omega), ob_some]
          by_cases hq : columnS (M0.1 1) (M0.2 5) i ≤ columnS (M0.1 1) (M0.2 5) b
          · simp only [if_pos hq, lt, nI_1] <;> rfl
          · simp only [if_neg hq, lt, nI_1] <;> rfl
      · rw [if_neg h6, if_neg h6, ob_some, if_neg Bool.false_ne_true]
        simp only [lt, nI_1]) (by
      show l_X8_longest_9 100 M0 _ (nI (cnt (M0.1 1))) = _
      unfold l_X8_longest_9
      rw [if_pos (by decide), e2, n2 h, if_pos (by rw [nI_leI (by omega) (by omega)]; omega)]) 100 (by omega)
  refine ⟨100, enc (bestG (columnS (M0.1 1) (M0.2 5)) (M0.1 1) (cnt (M0.1 1))), 100, enc (bestG (columnS (M0.1 1) (M0.2 5)) (M0.1 1) (cnt (M0.1 1))), M0, ?_, ?_, rfl, I0⟩
  · unfold f_X7_longest
    rw [ck]
    rfl
  · rw [mk]
    rfl
theorem ok_worst (I : Inv P G M) : OK_worst Inv P G M := by
  unfold OK_worst f_X8_worst
  have I0 : Inv P G (si M 0 0 0) := I
  simp only [lt]
  generalize si M 0 0 0 = M0 at I0 ⊢
  have g := I0.1
  have h := g.1
  have r := g.2.2.2.2.1
  have hc := cnt_le h
  have e2 : (2 : Int32).toNatClampNeg = 2 := rfl
  have en : (-1 : Int32).toInt = -1 := rfl
  have ck : wloop (fun t : Int32 × Int32 × Int32 => l_X7_worst_6 P t.1 t.2.1 t.2.2) 100 (-1, -1, 0) = some (enc (bestG (aoff (M0.1 1) (M0.2 5)) (M0.1 1) (cnt (M0.1 1)))) :=
    wl_count (f := fun t : Int32 × Int32 × Int32 => l_X7_worst_6 P t.1 t.2.1 t.2.2) (fun i => (enc (bestG (aoff (M0.1 1) (M0.2 5)) (M0.1 1) i), gr (aoff (M0.1 1) (M0.2 5)) (bestG (aoff (M0.1 1) (M0.2 5)) (M0.1 1) i), nI i)) (cnt (M0.1 1)) _ (fun i hi => by
      show l_X7_worst_6 P (enc (bestG (aoff (M0.1 1) (M0.2 5)) (M0.1 1) i)) (gr (aoff (M0.1 1) (M0.2 5)) (bestG (aoff (M0.1 1) (M0.2 5)) (M0.1 1) i)) (nI i) = _
      have hcol : 0 ≤ (aoff (M0.1 1) (M0.2 5) i).toInt := by
        have := off_bd h g.2.1 hi
        unfold aoff
        rw [off0_int (by omega)]; omega
      unfold l_X7_worst_6 b_X7_worst_66
      rw [r.2.2.1, n2 h, if_neg (by rw [nI_leI (by omega) (by omega)]; omega), c_tubeAt (show i < 12 by omega)]
      simp only [lt, c_tg g hi (show 6 < 7 by decide), c_off g hi, jabs_off, nI_1, bestG]
      rw [show f_X8_off0 (offS (M0.1 1) (M0.2 5) i) = aoff (M0.1 1) (M0.2 5) i from rfl]
      by_cases h6 : tg (M0.1 1) i 6 = 0
      · rw [if_pos h6, if_pos h6]
        cases hb : bestG (aoff (M0.1 1) (M0.2 5)) (M0.1 1) i with
        | none =>
          have : ¬ aoff (M0.1 1) (M0.2 5) i ≤ gr (aoff (M0.1 1) (M0.2 5)) none := by
            show ¬ aoff (M0.1 1) (M0.2 5) i ≤ -1
            rw [i32_le, en]; omega
          rw [if_neg this]
          rfl
        | some b =>
          show (if aoff (M0.1 1) (M0.2 5) i ≤ aoff (M0.1 1) (M0.2 5) b then _ else _) = _
          by_cases hq : aoff (M0.1 1) (M0.2 5) i ≤ aoff (M0.1 1) (M0.2 5) b
          · simp only [if_pos hq] <;> rfl
          · simp only [if_neg hq] <;> rfl
      · rw [if_neg h6, if_neg h6]) (by
      show l_X7_worst_6 P _ _ (nI (cnt (M0.1 1))) = _
      unfold l_X7_worst_6
      rw [r.2.2.1, n2 h, if_pos (by rw [nI_leI (by omega) (by omega)]; omega)]) 100 (by omega)
  have mk : wloop (fun t : Int32 × Int32 => l_X8_worst_9 100 M0 t.1 t.2) 100 (-1, 0) = some (enc (bestG (aoff (M0.1 1) (M0.2 5)) (M0.1 1) (cnt (M0.1 1)))) :=
    wl_count (f := fun t : Int32 × Int32 => l_X8_worst_9 100 M0 t.1 t.2) (fun i => (enc (bestG (aoff (M0.1 1) (M0.2 5)) (M0.1 1) i), nI i)) (cnt (M0.1 1)) _ (fun i hi => by
      show l_X8_worst_9 100 M0 (enc (bestG (aoff (M0.1 1) (M0.2 5)) (M0.1 1) i)) (nI i) = _
      unfold l_X8_worst_9 b_X8_worst_51 b_X8_worst_53
      rw [if_pos (by decide), e2, n2 h, if_neg (by rw [nI_leI (by omega) (by omega)]; omega), m_whole (by omega)]
      simp only [bestG]
      by_cases h6 : tg (M0.1 1) i 6 = 0
      · rw [if_pos h6, if_pos h6, ob_some, if_pos rfl]
        cases hb : bestG (aoff (M0.1 1) (M0.2 5)) (M0.1 1) i with
        | none =>
          show (if (-1 : Int32) = -1 then _ else _) = _
          rw [if_pos rfl]
          simp only [lt, nI_1]
          rfl
        | some b =>
          have hbi := bestG_lt i b hb
          show (if nI b = -1 then _ else ob (f_X8_offOf 100 M0 (nI i)) fun x8 => lt (f_X8_off0 x8) fun x9 => ob (f_X8_offOf 100 M0 (nI b)) fun x10 => _) = _
          rw [if_neg (enc_ne (by omega)), m_off h g.2.1 hi (by omega), ob_some, lt_eq, m_off h g.2.1 (by omega) (by omega), ob_some]
          show (if aoff (M0.1 1) (M0.2 5) i ≤ aoff (M0.1 1) (M0.2 5) b then _ else _) = _
          by_cases hq : aoff (M0.1 1) (M0.2 5) i ≤ aoff (M0.1 1) (M0.2 5) b
          · simp only [if_pos hq, lt, nI_1] <;> rfl
          · simp only [if_neg hq, lt, nI_1] <;> rfl
      · rw [if_neg h6, if_neg h6, ob_some, if_neg Bool.false_ne_true]
        simp only [lt, nI_1]) (by
      show l_X8_worst_9 100 M0 _ (nI (cnt (M0.1 1))) = _
      unfold l_X8_worst_9
      rw [if_pos (by decide), e2, n2 h, if_pos (by rw [nI_leI (by omega) (by omega)]; omega)]) 100 (by omega)
  refine ⟨100, enc (bestG (aoff (M0.1 1) (M0.2 5)) (M0.1 1) (cnt (M0.1 1))), 100, enc (bestG (aoff (M0.1 1) (M0.2 5)) (M0.1 1) (cnt (M0.1 1))), M0, ?_, ?_, rfl, I0⟩
  · unfold f_X7_worst
    rw [ck]
    rfl
  · rw [mk]
    rfl
end OK3
