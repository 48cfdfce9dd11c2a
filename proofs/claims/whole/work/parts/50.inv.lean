/-! INVARIANT, and what is asked of arguments -/
def ZB (N : Nat → Int32) (S : Nat → Int64) : Prop := (∀ k, 102 ≤ k → N k = 0) ∧ (∀ k, 6 ≤ k → S k = 0)
def Good (R : RowS) (N : Nat → Int32) (S : Nat → Int64) : Prop := wfN N ∧ wfS N S ∧ ZB N S ∧ Quiet N S ∧ Settled R N S
def IHist (P : RowsS) (G : GlbS) (M : RowS) : Prop :=
  ∃ o c : Nat, o < 10 ∧ c ≤ 10 ∧ G 1 1 = nI o ∧ G 1 2 = nI c ∧ M.1 0 9 = nI c ∧ ∀ i, i < c → ∃ N S, Good (P ((o + i) % 10 + 3)) N S ∧ (∀ k, k < 102 → M.1 4 (102 * i + k) = N k) ∧ (∀ k, k < 6 → M.2 8 (6 * i + k) = S k)
def ISnap (P : RowsS) (G : GlbS) (M : RowS) : Prop :=
  (G 0 6 = 0 ∧ M.1 0 10 = 0) ∨ (G 0 6 = 1 ∧ M.1 0 10 = 1 ∧ ∃ N S, Good (P 2) N S ∧ (∀ k, k < 102 → M.1 2 k = N k) ∧ (∀ k, k < 6 → M.2 6 k = S k))
def IBuf (G : GlbS) (M : RowS) : Prop :=
  ∃ f : Nat, f ≤ 600 ∧ G 3 1 = nI f ∧ M.1 0 12 = nI f ∧ ∀ k, k < f → bd (M.1 11 k) 0 255 ∧ G 4 k = (M.1 11 k).toInt8.toInt32
def IFmt (G : GlbS) (M : RowS) : Prop :=
  ∃ m : Nat, m ≤ 16 ∧ G 5 3 = nI m ∧ M.1 0 22 = nI m ∧ ∀ k, k < m → bd (M.1 21 k) 0 127 ∧ G 6 k = M.1 21 k
def Inv (P : RowsS) (G : GlbS) (M : RowS) : Prop :=
  Good (P 0) (M.1 1) (M.2 5) ∧ IHist P G M ∧ ISnap P G M ∧ IBuf G M ∧ G 3 8 = M.1 0 20 ∧ IFmt G M
/-- only what a call throws is written -/
theorem inv_thr {P : RowsS} {G : GlbS} {M : RowS} (I : Inv P G M) (v : Int32) : Inv P G (si M 0 0 v) := I
theorem inv_thr2 {P : RowsS} {G : GlbS} {M : RowS} (I : Inv P G M) (v w : Int32) : Inv P G (si (si M 0 0 v) 0 0 w) := I
theorem hist_fr {P P' : RowsS} {G G' : GlbS} {M M' : RowS} (I : IHist P G M) (hP : ∀ r, 3 ≤ r → P' r = P r) (h1 : G' 1 = G 1) (h4 : M'.1 4 = M.1 4) (h8 : M'.2 8 = M.2 8) (h9 : M'.1 0 9 = M.1 0 9) : IHist P' G' M' := by
  unfold IHist at I ⊢
  rw [h1, h4, h8, h9]
  obtain ⟨o, c, i1, i2, i3, i4, i5, i6⟩ := I
  refine ⟨o, c, i1, i2, i3, i4, i5, fun i hi => ?_⟩
  rw [hP _ (by omega)]
  exact i6 i hi
theorem snap_fr {P P' : RowsS} {G G' : GlbS} {M M' : RowS} (I : ISnap P G M) (hP : P' 2 = P 2) (h1 : G' 0 6 = G 0 6) (h4 : M'.1 2 = M.1 2) (h8 : M'.2 6 = M.2 6) (h9 : M'.1 0 10 = M.1 0 10) : ISnap P' G' M' := by
  unfold ISnap at I ⊢
  rw [h1, h4, h8, h9, hP]
  exact I
theorem buf_fr {G G' : GlbS} {M M' : RowS} (I : IBuf G M) (h1 : G' 3 1 = G 3 1) (h2 : G' 4 = G 4) (h4 : M'.1 11 = M.1 11) (h9 : M'.1 0 12 = M.1 0 12) : IBuf G' M' := by
  unfold IBuf at I ⊢
  rw [h1, h2, h4, h9]
  exact I
theorem fmt_fr {G G' : GlbS} {M M' : RowS} (I : IFmt G M) (h1 : G' 5 3 = G 5 3) (h2 : G' 6 = G 6) (h4 : M'.1 21 = M.1 21) (h9 : M'.1 0 22 = M.1 0 22) : IFmt G' M' := by
  unfold IFmt at I ⊢
  rw [h1, h2, h4, h9]
  exact I
section ARGS
theorem in_iff {x a b : Int64} : f_X8_in x a b = true ↔ a.toInt ≤ x.toInt ∧ x.toInt ≤ b.toInt := by
  unfold f_X8_in
  simp only [i64_lt]
  by_cases h1 : x.toInt < a.toInt
  · rw [if_pos h1]; constructor
    · intro q; cases q
    · intro q; omega
  · rw [if_neg h1]
    by_cases h2 : b.toInt < x.toInt
    · rw [if_pos h2]; constructor
      · intro q; cases q
      · intro q; omega
    · rw [if_neg h2]; exact ⟨fun _ => by omega, fun _ => rfl⟩
theorem in_f {x a b : Int64} (h : ¬ (a.toInt ≤ x.toInt ∧ x.toInt ≤ b.toInt)) : f_X8_in x a b = false := by
  cases hb : f_X8_in x a b with
  | false => rfl
  | true => exact absurd (in_iff.mp hb) h
theorem b2i_t : b2i true = 1 := rfl
theorem b2i_f : b2i false = 0 := rfl
theorem fails_t {M : RowS} (h : M.1 0 0 = 0) (k : Int32) : f_X8_fails M 1 k = (false, M) := by
  unfold f_X8_fails b_X8_fails_16
  rw [if_neg (by decide), if_pos h]
theorem fails_f {M : RowS} (h : M.1 0 0 = 0) {k : Int32} (hk : ¬ k = 0) : f_X8_fails M 0 k = (true, si M 0 0 k) := by
  unfold f_X8_fails b_X8_fails_16
  rw [if_pos rfl, if_pos h, lt_eq, si_at, if_neg hk]
theorem thr0 {M : RowS} (v : Int32) : (si M 0 0 v).1 0 0 = v := si_at
theorem within_cases (a lo hi : Int32) {lo6 hi6 : Int64} (h1 : lo6.toInt = lo.toInt) (h2 : hi6.toInt = hi.toInt) : (lo.toInt ≤ a.toInt ∧ a.toInt ≤ hi.toInt ∧ f_X7_requireWithin a lo hi = some () ∧ t_X7_requireWithin a lo hi = some 0 ∧ f_X8_in a.toInt64 lo6 hi6 = true) ∨ (f_X7_requireWithin a lo hi = none ∧ t_X7_requireWithin a lo hi = some 2 ∧ f_X8_in a.toInt64 lo6 hi6 = false) := by
  unfold f_X7_requireWithin b_X7_requireWithin_10 t_X7_requireWithin tb_X7_requireWithin_10
  simp only [i32_lt, i32_le]
  by_cases c1 : a.toInt < lo.toInt
  · right
    rw [if_pos c1, if_pos c1]
    exact ⟨rfl, rfl, in_f (by rw [h1, i32_ext]; omega)⟩
  · rw [if_neg c1, if_neg c1]
    by_cases c2 : a.toInt ≤ hi.toInt
    · left
      rw [if_pos c2, if_pos c2]
      exact ⟨by omega, c2, rfl, rfl, in_iff.mpr (by rw [h1, h2, i32_ext]; omega)⟩
    · right
      rw [if_neg c2, if_neg c2]
      exact ⟨rfl, rfl, in_f (by rw [h2, i32_ext]; omega)⟩
variable {P : RowsS} {G : GlbS} {M : RowS}
theorem n0 {N : Nat → Int32} (h : wfN N) : ∃ c : Nat, 2 ≤ c ∧ c ≤ 8 ∧ N 0 = nI c := by
  have h0 := h.1
  unfold bd at h0
  exact ⟨(N 0).toInt.toNat, by omega, by omega, gI_of (by omega)⟩
theorem pm1 {c : Nat} (hc : c ≤ 100) : ((nI c - 1).toInt64).toInt = (c : Int) - 1 := by
  rw [i32_ext, i32_sub (by rw [nI_toInt (by omega), show (1 : Int32).toInt = 1 from rfl]; omega), nI_toInt (by omega)]
  rfl
theorem point_cases (h : wfN (M.1 1)) (r : (P 0).1 0 0 = M.1 1 0) (a : Int32) : (∃ p : Nat, p < 8 ∧ (p : Int) < (M.1 1 0).toInt ∧ a = nI p ∧ f_X7_requirePoint P G a = some () ∧ t_X7_requirePoint P G a = some 0 ∧ f_X8_isPoint M a = some true) ∨ (f_X7_requirePoint P G a = none ∧ t_X7_requirePoint P G a = some 1 ∧ f_X8_isPoint M a = some false) := by
  obtain ⟨c, c1, c2, c3⟩ := n0 h
  have e0 : (0 : Int32).toNatClampNeg = 0 := rfl
  have hp : f_X8_isPoint M a = some (f_X8_in a.toInt64 0 ((nI c - 1).toInt64)) := by
    unfold f_X8_isPoint
    rw [if_pos (by decide), e0, c3]
    rfl
  unfold f_X7_requirePoint b_X7_requirePoint_15 t_X7_requirePoint tb_X7_requirePoint_15
  rw [r, c3]
  rcases pk_ix a (n := c) (by omega) with q | q | ⟨p, q1, q2⟩
  · right
    rw [if_pos q, if_pos q]
    refine ⟨rfl, rfl, ?_⟩
    rw [hp, in_f]
    rw [i32_lt] at q
    rw [i32_ext]
    have : (0 : Int64).toInt = 0 := rfl
    have : (0 : Int32).toInt = 0 := rfl
    omega
  · right
    rw [i32_le, nI_toInt (by omega)] at q
    have e1 : ¬ a < 0 := by rw [i32_lt]; have : (0 : Int32).toInt = 0 := rfl; omega
    have e2 : ¬ a < nI c := by rw [i32_lt, nI_toInt (by omega)]; omega
    rw [if_neg e1, if_neg e1, if_neg e2, if_neg e2]
    refine ⟨rfl, rfl, ?_⟩
    rw [hp, in_f]
    rw [i32_ext, pm1 (by omega)]
    omega
  · left
    subst q2
    have e1 : ¬ nI p < 0 := nI_pos (by omega)
    have e2 : nI p < nI c := nI_lt q1 (by omega)
    rw [if_neg e1, if_neg e1, if_pos e2, if_pos e2]
    refine ⟨p, by omega, by rw [nI_toInt (by omega)]; omega, rfl, rfl, rfl, ?_⟩
    rw [hp, in_iff.mpr]
    rw [i32_ext, pm1 (by omega), nI_toInt (by omega)]
    have : (0 : Int64).toInt = 0 := rfl
    omega
theorem tube_cases (h : wfN (M.1 1)) (r : (P 0).1 0 2 = M.1 1 2) (a : Int32) : (∃ t : Nat, t < cnt (M.1 1) ∧ t < 12 ∧ a = nI t ∧ f_X7_requireTube P G a = some () ∧ t_X7_requireTube P G a = some 0 ∧ f_X8_isTube M a = some true) ∨ (f_X7_requireTube P G a = none ∧ t_X7_requireTube P G a = some 1 ∧ f_X8_isTube M a = some false) := by
  have hc := cnt_le h
  have c3 := n2 h
  have e0 : (2 : Int32).toNatClampNeg = 2 := rfl
  have hp : f_X8_isTube M a = some (f_X8_in a.toInt64 0 ((nI (cnt (M.1 1)) - 1).toInt64)) := by
    unfold f_X8_isTube
    rw [if_pos (by decide), e0, c3]
    rfl
  unfold f_X7_requireTube b_X7_requireTube_15 t_X7_requireTube tb_X7_requireTube_15
  rw [r, c3]
  generalize cnt (M.1 1) = c at hc hp
  rcases pk_ix a (n := c) (by omega) with q | q | ⟨p, q1, q2⟩
  · right
    rw [if_pos q, if_pos q]
    refine ⟨rfl, rfl, ?_⟩
    rw [hp, in_f]
    rw [i32_lt] at q
    rw [i32_ext]
    have : (0 : Int64).toInt = 0 := rfl
    have : (0 : Int32).toInt = 0 := rfl
    omega
  · right
    rw [i32_le, nI_toInt (by omega)] at q
    have e1 : ¬ a < 0 := by rw [i32_lt]; have : (0 : Int32).toInt = 0 := rfl; omega
    have e2 : ¬ a < nI c := by rw [i32_lt, nI_toInt (by omega)]; omega
    rw [if_neg e1, if_neg e1, if_neg e2, if_neg e2]
    refine ⟨rfl, rfl, ?_⟩
    rw [hp, in_f]
    rw [i32_ext, pm1 (by omega)]
    omega
  · left
    subst q2
    have e1 : ¬ nI p < 0 := nI_pos (by omega)
    have e2 : nI p < nI c := nI_lt q1 (by omega)
    rw [if_neg e1, if_neg e1, if_pos e2, if_pos e2]
    refine ⟨p, q1, by omega, rfl, rfl, rfl, ?_⟩
    rw [hp, in_iff.mpr]
    rw [i32_ext, pm1 (by omega), nI_toInt (by omega)]
    have : (0 : Int64).toInt = 0 := rfl
    omega
theorem leg_cases (a : Int32) : (∃ j : Nat, j < 2 ∧ a = nI j ∧ f_X7_requireLeg a = some () ∧ t_X7_requireLeg a = some 0 ∧ f_X8_isLeg a = true) ∨ (f_X7_requireLeg a = none ∧ t_X7_requireLeg a = some 1 ∧ f_X8_isLeg a = false) := by
  by_cases c0 : a = 0
  · subst c0
    exact Or.inl ⟨0, by decide, rfl, by decide, by decide, by decide⟩
  · by_cases c1 : a = 1
    · subst c1
      exact Or.inl ⟨1, by decide, rfl, by decide, by decide, by decide⟩
    · right
      unfold f_X7_requireLeg t_X7_requireLeg f_X8_isLeg
      rw [if_neg c0, if_neg c1, if_neg c0, if_neg c1, lt_eq, in_f]
      · exact ⟨rfl, rfl, rfl⟩
      · rw [i32_ext]
        have d0 : (0 : Int64).toInt = 0 := rfl
        have d1 : (1 : Int64).toInt = 1 := rfl
        have g0 : a.toInt ≠ 0 := fun q => c0 (i32_eq (by rw [q]; rfl))
        have g1 : a.toInt ≠ 1 := fun q => c1 (i32_eq (by rw [q]; rfl))
        omega
end ARGS
