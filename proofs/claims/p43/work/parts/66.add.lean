/-! OPERATIONS 5: addTube, dropTube -/
def layN (N : Nat → Int32) (t : Nat) (a b c d e f : Int32) : Nat → Int32 :=
  va_up (va_up (va_up (va_up (va_up (va_up (va_up N (18 + 7 * t + 0) a) (18 + 7 * t + 1) b) (18 + 7 * t + 2) c) (18 + 7 * t + 3) d) (18 + 7 * t + 4) e) (18 + 7 * t + 5) f) (18 + 7 * t + 6) 0
section LAY
variable {N : Nat → Int32} {t : Nat} {a b c d e f : Int32}
theorem lay_no {k : Nat} (h : k < 18 + 7 * t ∨ 18 + 7 * t + 6 < k) : layN N t a b c d e f k = N k := by
  unfold layN
  rw [va_up_ne _ _ (by omega), va_up_ne _ _ (by omega), va_up_ne _ _ (by omega), va_up_ne _ _ (by omega), va_up_ne _ _ (by omega), va_up_ne _ _ (by omega), va_up_ne _ _ (by omega)]
theorem lay_0 : layN N t a b c d e f (18 + 7 * t + 0) = a := by
  unfold layN
  rw [va_up_ne _ _ (by omega), va_up_ne _ _ (by omega), va_up_ne _ _ (by omega), va_up_ne _ _ (by omega), va_up_ne _ _ (by omega), va_up_ne _ _ (by omega), va_up_self]
theorem lay_1 : layN N t a b c d e f (18 + 7 * t + 1) = b := by
  unfold layN
  rw [va_up_ne _ _ (by omega), va_up_ne _ _ (by omega), va_up_ne _ _ (by omega), va_up_ne _ _ (by omega), va_up_ne _ _ (by omega), va_up_self]
theorem lay_2 : layN N t a b c d e f (18 + 7 * t + 2) = c := by
  unfold layN
  rw [va_up_ne _ _ (by omega), va_up_ne _ _ (by omega), va_up_ne _ _ (by omega), va_up_ne _ _ (by omega), va_up_self]
theorem lay_3 : layN N t a b c d e f (18 + 7 * t + 3) = d := by
  unfold layN
  rw [va_up_ne _ _ (by omega), va_up_ne _ _ (by omega), va_up_ne _ _ (by omega), va_up_self]
theorem lay_4 : layN N t a b c d e f (18 + 7 * t + 4) = e := by
  unfold layN
  rw [va_up_ne _ _ (by omega), va_up_ne _ _ (by omega), va_up_self]
theorem lay_5 : layN N t a b c d e f (18 + 7 * t + 5) = f := by
  unfold layN
  rw [va_up_ne _ _ (by omega), va_up_self]
theorem lay_6 : layN N t a b c d e f (18 + 7 * t + 6) = 0 := by
  unfold layN
  rw [va_up_self]
theorem lay_mark {g : Int32} : va_up (layN N t a b c d e f) (18 + 7 * t + 5) g = layN N t a b c d e g := by
  funext k
  by_cases q : k = 18 + 7 * t + 5
  · subst q; rw [va_up_self, lay_5]
  · rw [va_up_ne _ _ q]
    unfold layN
    by_cases q6 : k = 18 + 7 * t + 6
    · subst q6; rw [va_up_self, va_up_self]
    · rw [va_up_ne _ _ q6, va_up_ne _ _ q6, va_up_ne _ _ q, va_up_ne _ _ q]
end LAY
/-- a tube comes behind the others -/
def addN (N : Nat → Int32) (t : Nat) (a b c d e f : Int32) : Nat → Int32 := va_up (layN N t a b c d e f) 2 (nI (t + 1))
theorem addN_no {N : Nat → Int32} {t k : Nat} {a b c d e f : Int32} (h : k < 18 + 7 * t ∨ 18 + 7 * t + 6 < k) (h2 : k ≠ 2) : addN N t a b c d e f k = N k := by
  unfold addN
  rw [va_up_ne _ _ h2, lay_no h]
theorem addN_tg {N : Nat → Int32} {t k : Nat} {a b c d e f : Int32} : tg (addN N t a b c d e f) t k = layN N t a b c d e f (18 + 7 * t + k) := by
  unfold tg addN
  rw [va_up_ne _ _ (by omega)]
theorem addN_cnt {N : Nat → Int32} {t : Nat} (ht : t < 12) {a b c d e f : Int32} : cnt (addN N t a b c d e f) = t + 1 := by
  unfold cnt addN
  rw [va_up_self, nI_clamp (by omega)]
theorem addN_wf {N : Nat → Int32} (h : wfN N) (ht : cnt N < 12) {a b c d e f : Int32} (ha : bd a 0 1) (hb : 0 ≤ b.toInt ∧ b.toInt < (N 0).toInt) (hc : bd c 1 20) (hd : bd d 50 1000) (he : bd e 10 2000) (hf : bd f (-9999) 9999) : wfN (addN N (cnt N) a b c d e f) := by
  obtain ⟨h1, h2, h3, h4, h5, h6⟩ := h
  refine ⟨by rw [addN_no (by omega) (by omega)]; exact h1, by rw [addN_no (by omega) (by omega)]; exact h2, ?_, fun p hp => by rw [addN_no (by omega) (by omega)]; exact h4 p hp, fun j hj => ?_, fun t ht' => ?_⟩
  · unfold addN
    rw [va_up_self]
    unfold bd
    rw [nI_toInt (by omega)]
    omega
  · have e : ∀ k, k < 3 → lg (addN N (cnt N) a b c d e f) j k = lg N j k := fun k hk => addN_no (by omega) (by omega)
    rw [e 0 (by decide), e 1 (by decide), e 2 (by decide)]
    exact h5 j hj
  · rw [addN_cnt ht] at ht'
    by_cases q : t = cnt N
    · subst q
      rw [addN_tg, addN_tg, addN_tg, addN_tg, addN_tg, addN_tg, addN_tg, lay_0, lay_1, lay_2, lay_3, lay_4, lay_5, lay_6, addN_no (k := 0) (by omega) (by omega)]
      exact ⟨ha, hb.1, hb.2, hc, hd, he, hf, by unfold bd; decide⟩
    · have e : ∀ k, k < 7 → tg (addN N (cnt N) a b c d e f) t k = tg N t k := fun k hk => addN_no (by omega) (by omega)
      rw [e 0 (by decide), e 1 (by decide), e 2 (by decide), e 3 (by decide), e 4 (by decide), e 5 (by decide), e 6 (by decide), addN_no (k := 0) (by omega) (by omega)]
      exact h6 t (by omega)
theorem addN_wfS {N : Nat → Int32} {S : Nat → Int64} (hS : wfS N S) {t : Nat} {a b c d e f : Int32} : wfS (addN N t a b c d e f) S := by
  intro j hj
  have e0 : lg (addN N t a b c d e f) j 0 = lg N j 0 := addN_no (by omega) (by omega)
  have e1 : lg (addN N t a b c d e f) j 1 = lg N j 1 := addN_no (by omega) (by omega)
  unfold lowL
  rw [e0, e1]
  exact hS j hj
def addR (R : RowS) (t : Nat) (a b c d e : Int32) : RowS := stT (stT (si R 0 2 (nI (t + 1))) (t + 5) (f_X6_stand ((si R 0 2 (nI (t + 1))).1 (t + 5)) a b)) (t + 5) (f_X6_shape (f_X6_stand ((si R 0 2 (nI (t + 1))).1 (t + 5)) a b) c d e)
theorem addR_rel {R : RowS} {N : Nat → Int32} {S : Nat → Int64} (h : wfN N) (r : Rel R N S) (ht : cnt N < 12) {a b c d e : Int32} : Rel (addR R (cnt N) a b c d e) (addN N (cnt N) a b c d e 0) S := by
  obtain ⟨r1, r2, r3, r4, r5, r6⟩ := r
  have ne : ∀ q, q ≠ cnt N + 5 → (addR R (cnt N) a b c d e).1 q = (si R 0 2 (nI (cnt N + 1))).1 q := fun q hq => by
    unfold addR
    rw [stT_1n hq, stT_1n hq]
  have at_ : (addR R (cnt N) a b c d e).1 (cnt N + 5) = f_X6_shape (f_X6_stand ((si R 0 2 (nI (cnt N + 1))).1 (cnt N + 5)) a b) c d e := by
    unfold addR
    rw [stT_1]
  refine ⟨?_, ?_, ?_, fun p hp => ?_, fun j hj => ?_, fun t ht' k hk => ?_⟩
  · rw [ne 0 (by omega), si_ne (Or.inr (by decide)), addN_no (by omega) (by omega)]; exact r1
  · rw [ne 0 (by omega), si_ne (Or.inr (by decide)), addN_no (by omega) (by omega)]; exact r2
  · rw [ne 0 (by omega), si_at]
    unfold addN
    rw [va_up_self]
  · rw [ne 1 (by omega), si_ne (Or.inl (by decide)), addN_no (by omega) (by omega)]; exact r4 p hp
  · have el : ∀ k, k < 3 → lg (addN N (cnt N) a b c d e 0) j k = lg N j k := fun k hk => addN_no (by omega) (by omega)
    rw [el 0 (by decide), el 1 (by decide), el 2 (by decide)]
    have e2 : (addR R (cnt N) a b c d e).2 = R.2 := rfl
    rw [e2, ne (j + 2) (by omega), si_ne (Or.inl (by omega)), si_ne (Or.inl (by omega)), si_ne (Or.inl (by omega))]
    exact r5 j hj
  · rw [addN_cnt ht] at ht'
    by_cases q : t = cnt N
    · subst q
      rw [at_, addN_tg]
      have hk' : k = 0 ∨ k = 1 ∨ k = 2 ∨ k = 3 ∨ k = 4 ∨ k = 5 ∨ k = 6 := by omega
      rcases hk' with rfl | rfl | rfl | rfl | rfl | rfl | rfl
      · rw [lay_0]; rfl
      · rw [lay_1]; rfl
      · rw [lay_2]; rfl
      · rw [lay_3]; rfl
      · rw [lay_4]; rfl
      · rw [lay_5]; rfl
      · rw [lay_6]; rfl
    · have e : tg (addN N (cnt N) a b c d e 0) t k = tg N t k := addN_no (by omega) (by omega)
      rw [e, ne (t + 5) (by omega), si_ne (Or.inl (by omega))]
      exact r6 t (by omega) k hk

