/-! MEANS -/
def PD (d : FP.Core.Datum) : Prop := (∃ s, d = .inf s) ∨ ∃ s c q, d = .fin s c q ∧ c < 9007199254740992 ∧ q ≤ 971
def fnz : FP.Core.Datum → Bool
  | .fin _ c _ => decide (c ≠ 0)
  | _ => false
theorem pd_round (s : Bool) (a b : Nat) (e : Int) : PD (FP.Core.roundRatio FP.Core.b64 s a b e) := by
  have e1 : FP.Core.b64.qmax = 971 := by decide
  have e2 : FP.Core.b64.qmin = -1074 := by decide
  have e3 : 2 ^ FP.Core.b64.p = 9007199254740992 := by decide
  have e4 : FP.Core.b64.tails = 4503599627370496 := by decide
  have hb : ∀ c q, c < 9007199254740992 → PD (FP.Core.bound FP.Core.b64 s c q) := by
    intro c q hc
    unfold FP.Core.bound
    rw [e1]
    by_cases hq : q ≤ 971
    · rw [if_pos hq]; exact Or.inr ⟨s, c, q, rfl, hc, hq⟩
    · rw [if_neg hq]; exact Or.inl ⟨s, rfl⟩
  unfold FP.Core.roundRatio
  by_cases h0 : a = 0
  · rw [if_pos h0]; exact Or.inr ⟨s, 0, _, rfl, by omega, by rw [e2]; omega⟩
  · rw [if_neg h0]
    unfold FP.Core.roundAt FP.Core.settle
    rw [e3]
    split
    · exact hb _ _ (by assumption)
    · exact hb _ _ (by rw [e4]; omega)
theorem nn_enc {d : FP.Core.Datum} (h : PD d) : (UInt64.ofNat (FP.Core.encode FP.Core.b64 d)).toNat % 9223372036854775808 ≤ 9218868437227405312 := by
  have e2 : FP.Core.b64.qmin = -1074 := by decide
  have e4 : FP.Core.b64.tails = 4503599627370496 := by decide
  have e5 : FP.Core.b64.exps = 2048 := by decide
  have hs : ∀ s : Bool, s.toNat ≤ 1 := fun s => by cases s <;> decide
  rw [UInt64.toNat_ofNat']
  rcases h with ⟨s, rfl⟩ | ⟨s, c, q, rfl, h1, h2⟩
  · have := hs s
    show ((s.toNat * FP.Core.b64.exps + (FP.Core.b64.exps - 1)) * FP.Core.b64.tails + 0) % 2 ^ 64 % _ ≤ _
    rw [e4, e5]
    omega
  · have := hs s
    show (if c < FP.Core.b64.tails then FP.Core.assemble FP.Core.b64 s 0 c else FP.Core.assemble FP.Core.b64 s ((q - FP.Core.b64.qmin).toNat + 1) (c - FP.Core.b64.tails)) % 2 ^ 64 % _ ≤ _
    unfold FP.Core.assemble
    rw [e2, e4, e5]
    split <;> omega
theorem nn_dec {m : Nat} (h : m % 9223372036854775808 ≤ 9218868437227405312) : FP.Core.decode FP.Core.b64 m ≠ .nan := by
  have e4 : FP.Core.b64.tails = 4503599627370496 := by decide
  have e5 : FP.Core.b64.exps = 2048 := by decide
  unfold FP.Core.decode FP.Core.fieldE FP.Core.fieldT
  rw [e4, e5]
  split
  · rename_i h1
    rw [if_pos (by omega)]
    intro q; cases q
  · split
    · intro q; cases q
    · intro q; cases q
theorem nn_cmp {r : UInt64} (h : r.toNat % 9223372036854775808 ≤ 9218868437227405312) : Op.cmpValue (FP.dcmp r r) .l = 0 := by
  have h1 := nn_dec h
  have h2 : FP.dcmp r r = some .eq := by
    show FP.Core.order (FP.Core.decode FP.Core.b64 r.toNat) (FP.Core.decode FP.Core.b64 r.toNat) = _
    cases hd : FP.Core.decode FP.Core.b64 r.toNat with
    | nan => exact absurd hd h1
    | inf s => simp [FP.Core.order]
    | fin s c q => simp [FP.Core.order]
  rw [h2]
  rfl
theorem nn_guard {r : UInt64} (h : r.toNat % 9223372036854775808 ≤ 9218868437227405312) : r &&& 0x7fffffffffffffff ≤ 0x7ff0000000000000 := by
  rw [UInt64.le_iff_toNat_le, UInt64.toNat_and]
  have e1 : (0x7fffffffffffffff : UInt64).toNat = 2 ^ 63 - 1 := by decide
  have e2 : (0x7ff0000000000000 : UInt64).toNat = 9218868437227405312 := by decide
  rw [e1, e2, Nat.and_two_pow_sub_one_eq_mod]
  exact h
theorem mean_ok {s : Int32} {s6 : Int64} {n : Nat} (h1 : 1 ≤ n) (h2 : n ≤ 12) (hs : s6.toInt = s.toInt) : FP.ddiv (FP.l2d s6) (FP.i2d (nI n)) = FP.ddiv (FP.i2d s) (FP.i2d (nI n)) ∧ (FP.ddiv (FP.i2d s) (FP.i2d (nI n))) &&& 0x7fffffffffffffff ≤ 0x7ff0000000000000 ∧ Op.cmpValue (FP.dcmp (FP.ddiv (FP.i2d s) (FP.i2d (nI n))) (FP.ddiv (FP.i2d s) (FP.i2d (nI n)))) .l = 0 := by
  have e : FP.l2d s6 = FP.i2d s := by
    show UInt64.ofNat (FP.Core.fromInt FP.Core.b64 s6.toInt) = UInt64.ofNat (FP.Core.fromInt FP.Core.b64 s.toInt)
    rw [hs]
  have hx : FP.Core.decode FP.Core.b64 (FP.i2d s).toNat ≠ .nan := nn_dec (nn_enc (pd_round _ _ _ _))
  have hy : ∀ n, n < 13 → n ≠ 0 → fnz (FP.Core.decode FP.Core.b64 (FP.i2d (nI n)).toNat) = true := by decide +kernel
  have hy := hy n (by omega) (by omega)
  have hq : PD (FP.Core.quotient FP.Core.b64 (FP.Core.decode FP.Core.b64 (FP.i2d s).toNat) (FP.Core.decode FP.Core.b64 (FP.i2d (nI n)).toNat)) := by
    cases hd : FP.Core.decode FP.Core.b64 (FP.i2d (nI n)).toNat with
    | nan => rw [hd] at hy; cases hy
    | inf t => rw [hd] at hy; cases hy
    | fin t d r =>
      rw [hd] at hy
      have hd0 : d ≠ 0 := of_decide_eq_true hy
      cases hc : FP.Core.decode FP.Core.b64 (FP.i2d s).toNat with
      | nan => exact absurd hc hx
      | inf u => exact Or.inl ⟨_, rfl⟩
      | fin u c q =>
        show PD (if d = 0 then _ else FP.Core.roundRatio FP.Core.b64 (u != t) c d (q - r))
        rw [if_neg hd0]
        exact pd_round _ _ _ _
  have hr := nn_enc hq
  rw [e]
  exact ⟨rfl, nn_guard hr, nn_cmp hr⟩
noncomputable def rs32 (N : Nat → Int32) (S : Nat → Int64) : Nat → Int32
  | 0 => 0
  | n + 1 => if tg N n 6 = 0 then rs32 N S n + readS N S n else rs32 N S n
noncomputable def rs64 (N : Nat → Int32) (S : Nat → Int64) : Nat → Int64
  | 0 => 0
  | n + 1 => if tg N n 6 = 0 then rs64 N S n + (readS N S n).toInt64 else rs64 N S n
section RS
variable {N : Nat → Int32} {S : Nat → Int64}
theorem read_bd (h : wfN N) (hS : wfS N S) {t : Nat} (ht : t < cnt N) : -30000 ≤ (readS N S t).toInt ∧ (readS N S t).toInt ≤ 30000 := by
  have h1 := column_int h hS ht
  have h2 := full_int h ht
  have h3 := (h.2.2.2.2.2 t ht).2.2.2.2.2.2.1
  unfold bd at h3
  have e0 : (10 : Int32).toInt = 10 := rfl
  have e1 : (columnS N S t / 10).toInt = (columnS N S t).toInt / 10 := by rw [i32_div (by omega), e0, Int.tdiv_eq_ediv_of_nonneg (by omega)]
  unfold readS
  rw [i32_add (by rw [e1]; omega), e1]
  omega
theorem rs_int (h : wfN N) (hS : wfS N S) : ∀ n, n ≤ cnt N → (rs64 N S n).toInt = (rs32 N S n).toInt ∧ -(30000 * (n : Int)) ≤ (rs32 N S n).toInt ∧ (rs32 N S n).toInt ≤ 30000 * n := by
  have hc := cnt_le h
  intro n
  induction n with
  | zero => intro _; have : (rs32 N S 0).toInt = 0 := rfl; exact ⟨rfl, by omega, by omega⟩
  | succ n ih =>
    intro hn
    have h1 := ih (by omega)
    have h2 := read_bd h hS (t := n) (by omega)
    simp only [rs64, rs32]
    split
    · rw [i64_add (by rw [i32_ext]; omega), i32_ext, i32_add (by omega)]
      omega
    · omega
theorem wh_cS (n : Nat) : nI (wh N n) = cS N 0 n := by
  induction n with
  | zero => rfl
  | succ n ih =>
    simp only [wh, cS]
    rw [← ih]
    split
    · exact (nI_1 _).symm
    · rw [Int32.add_zero]; rfl
end RS
section OKM
variable {P : RowsS} {G : GlbS} {M : RowS}
theorem ok_meanReading (I : Inv P G M) : OK_meanReading Inv P G M := by
  unfold OK_meanReading f_X8_meanReading
  have I0 : Inv P G (si M 0 0 0) := I
  simp only [lt]
  generalize si M 0 0 0 = M0 at I0 ⊢
  have g := I0.1
  have h := g.1
  have r := g.2.2.2.2.1
  have hc := cnt_le h
  have hw := wh_le (N := M0.1 1) (cnt (M0.1 1))
  have hi := rs_int h g.2.1 (cnt (M0.1 1)) (Nat.le_refl _)
  have e2 : (2 : Int32).toNatClampNeg = 2 := rfl
  have ck : wloop (fun t : Int32 × Int32 × Int32 => l_X7_meanReading_6 P t.1 t.2.1 t.2.2) 100 (0, 0, 0) = some (rs32 (M0.1 1) (M0.2 5) (cnt (M0.1 1)), nI (wh (M0.1 1) (cnt (M0.1 1)))) :=
    wl_count (f := fun t : Int32 × Int32 × Int32 => l_X7_meanReading_6 P t.1 t.2.1 t.2.2) (fun i => (rs32 (M0.1 1) (M0.2 5) i, nI (wh (M0.1 1) i), nI i)) (cnt (M0.1 1)) _ (fun i hi => by
      show l_X7_meanReading_6 P (rs32 (M0.1 1) (M0.2 5) i) (nI (wh (M0.1 1) i)) (nI i) = _
      unfold l_X7_meanReading_6 b_X7_meanReading_46
      rw [r.2.2.1, n2 h, if_neg (by rw [nI_leI (by omega) (by omega)]; omega), c_tubeAt (show i < 12 by omega)]
      simp only [lt, c_tg g hi (show 6 < 7 by decide), c_reading g hi, nI_1, rs32, wh]
      split <;> rfl) (by
      show l_X7_meanReading_6 P _ _ (nI (cnt (M0.1 1))) = _
      unfold l_X7_meanReading_6
      rw [r.2.2.1, n2 h, if_pos (by rw [nI_leI (by omega) (by omega)]; omega)]) 100 (by omega)
  have mk : wloop (fun t : Int64 × Int32 => l_X8_meanReading_9 100 M0 t.1 t.2) 100 (0, 0) = some (rs64 (M0.1 1) (M0.2 5) (cnt (M0.1 1))) :=
    wl_count (f := fun t : Int64 × Int32 => l_X8_meanReading_9 100 M0 t.1 t.2) (fun i => (rs64 (M0.1 1) (M0.2 5) i, nI i)) (cnt (M0.1 1)) _ (fun i hi => by
      show l_X8_meanReading_9 100 M0 (rs64 (M0.1 1) (M0.2 5) i) (nI i) = _
      unfold l_X8_meanReading_9 b_X8_meanReading_38
      rw [if_pos (by decide), e2, n2 h, if_neg (by rw [nI_leI (by omega) (by omega)]; omega), m_whole (by omega)]
      simp only [rs64]
      by_cases h6 : tg (M0.1 1) i 6 = 0
      · rw [if_pos h6, if_pos h6, ob_some, if_pos rfl, m_reading h g.2.1 hi (by omega), ob_some]
        simp only [lt, nI_1]
      · rw [if_neg h6, if_neg h6, ob_some, if_neg Bool.false_ne_true]
        simp only [lt, nI_1, Int64.add_zero]) (by
      show l_X8_meanReading_9 100 M0 _ (nI (cnt (M0.1 1))) = _
      unfold l_X8_meanReading_9
      rw [if_pos (by decide), e2, n2 h, if_pos (by rw [nI_leI (by omega) (by omega)]; omega)]) 100 (by omega)
  by_cases hz : wh (M0.1 1) (cnt (M0.1 1)) = 0
  · refine ⟨100, FP.dconst0, 100, FP.dconst0, M0, ?_, ?_, by decide +kernel, I0⟩
    · unfold f_X7_meanReading
      rw [ck, ob_some, hz]
      unfold b_X7_meanReading_52
      exact if_pos rfl
    · rw [mk, ob_some]
      unfold b_X8_meanReading_46
      rw [m_state h 0 (by omega), ob_some, ← wh_cS, hz, if_pos (show nI 0 = 0 from rfl)]
  · have ok := mean_ok (s := rs32 (M0.1 1) (M0.2 5) (cnt (M0.1 1))) (n := wh (M0.1 1) (cnt (M0.1 1))) (by omega) (by omega) hi.1
    refine ⟨100, _, 100, _, M0, ?_, ?_, ok.2.2, I0⟩
    · unfold f_X7_meanReading
      rw [ck, ob_some]
      unfold b_X7_meanReading_52
      rw [if_neg (nI_ne0 (by omega) (by omega)), if_pos ok.2.1]
    · rw [mk, ob_some]
      unfold b_X8_meanReading_46
      rw [m_state h 0 (by omega), ob_some, ← wh_cS, if_neg (nI_ne0 (by omega) (by omega)), ok.1, if_pos ok.2.1]
theorem share_ok : ∀ a, a < 13 → ∀ b, b < 13 → b ≠ 0 → ((FP.fdiv (FP.i2f (nI a)) (FP.i2f (nI b))) &&& 0x7fffffff ≤ 0x7f800000) ∧ ((FP.f2d (FP.fdiv (FP.i2f (nI a)) (FP.i2f (nI b)))) &&& 0x7fffffffffffffff ≤ 0x7ff0000000000000) ∧ Op.cmpValue (FP.dcmp (FP.f2d (FP.fdiv (FP.i2f (nI a)) (FP.i2f (nI b)))) (FP.f2d (FP.fdiv (FP.i2f (nI a)) (FP.i2f (nI b))))) .l = 0 := by decide +kernel
theorem ok_wholeShare (I : Inv P G M) : OK_wholeShare Inv P G M := by
  unfold OK_wholeShare f_X7_wholeShare f_X8_wholeShare
  have I0 : Inv P G (si M 0 0 0) := I
  simp only [lt]
  generalize si M 0 0 0 = M0 at I0 ⊢
  have g := I0.1
  have h := g.1
  have r := g.2.2.2.2.1
  have hc := cnt_le h
  have hw := wh_le (N := M0.1 1) (cnt (M0.1 1))
  have e2 : (2 : Int32).toNatClampNeg = 2 := rfl
  rw [r.2.2.1, e2, n2 h]
  by_cases hz : cnt (M0.1 1) = 0
  · refine ⟨100, FP.fconst0, 100, FP.fconst0, M0, ?_, ?_, by unfold vf_n64; decide +kernel, by unfold vf_n64; decide +kernel, by decide +kernel, I0⟩
    · rw [hz, if_pos (show nI 0 = 0 from rfl)]
    · rw [if_pos (by decide), hz, if_pos (show nI 0 = 0 from rfl)]
  · have ok := share_ok (wh (M0.1 1) (cnt (M0.1 1))) (by omega) (cnt (M0.1 1)) (by omega) hz
    refine ⟨100, _, 100, _, M0, ?_, ?_, ok.2.1, ok.2.1, ok.2.2, I0⟩
    · rw [if_neg (nI_ne0 (by omega) (by omega)), c_state h r 0 (by omega), ob_some, ← wh_cS, if_pos ok.1]
    · rw [if_pos (by decide), if_neg (nI_ne0 (by omega) (by omega)), m_state h 0 (by omega), ob_some, if_pos (by decide), ← wh_cS, if_pos ok.1]
end OKM
