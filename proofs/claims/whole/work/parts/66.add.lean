/-! OPERATIONS 5: addTube, dropTube -/
def layN (N : Nat → Int32) (t : Nat) (a b c d e f : Int32) : Nat → Int32 :=
  va_up (va_up (va_up (va_up (va_up (va_up (va_up N (18 + 7 * t + 0) a) (18 + 7 * t + 1) b) (18 + 7 * t + 2) c) (18 + 7 * t + 3) d) (18 + 7 * t + 4) e) (18 + 7 * t + 5) f) (18 + 7 * t + 6) 0
section LAY
variable {N : Nat → Int32} {t : Nat} {a b c d e f : Int32}
theorem lay_no {k : Nat} (h : k < 18 + 7 * t ∨ 18 + 7 * t + 6 < k) : layN N t a b c d e f k = N k := by
  unfold layN
  rw [va_up_ne _ _ (by omega), va_up_ne _ _ (by omega), va_up_ne _ _ (by omega), va_up_ne _ _ (by omega), va_up_ne _ _ (by omega), va_up_ne _ _ (by omega), va_up_ne _ _ (by omega)]
theorem lay_0 : layN N t a b c d e f (18 + 7 * t + 0) = a := by
  unfold layN
  rw [va_up_ne _ _ (by omega), va_up_ne _ _ (by omega), va_up_ne _ _ (by omega), va_up_ne _ _ (by omega), va_up_ne _ _ (by omega), va_up_ne _ _ (by omega), va_up_self]
theorem lay_1 : layN N t a b c d e f (18 + 7 * t + 1) = b := by
  unfold layN
  rw [va_up_ne _ _ (by omega), va_up_ne _ _ (by omega), va_up_ne _ _ (by omega), va_up_ne _ _ (by omega), va_up_ne _ _ (by omega), va_up_self]
theorem lay_2 : layN N t a b c d e f (18 + 7 * t + 2) = c := by
  unfold layN
  rw [va_up_ne _ _ (by omega), va_up_ne _ _ (by omega), va_up_ne _ _ (by omega), va_up_ne _ _ (by omega), va_up_self]
theorem lay_3 : layN N t a b c d e f (18 + 7 * t + 3) = d := by
  unfold layN
  rw [va_up_ne _ _ (by omega), va_up_ne _ _ (by omega), va_up_ne _ _ (by omega), va_up_self]
theorem lay_4 : layN N t a b c d e f (18 + 7 * t + 4) = e := by
  unfold layN
  rw [va_up_ne _ _ (by omega), va_up_ne _ _ (by omega), va_up_self]
theorem lay_5 : layN N t a b c d e f (18 + 7 * t + 5) = f := by
  unfold layN
  rw [va_up_ne _ _ (by omega), va_up_self]
theorem lay_6 : layN N t a b c d e f (18 + 7 * t + 6) = 0 := by
  unfold layN
  rw [va_up_self]
theorem lay_mark {g : Int32} : va_up (layN N t a b c d e f) (18 + 7 * t + 5) g = layN N t a b c d e g := by
  funext k
  by_cases q : k = 18 + 7 * t + 5
  · subst q; rw [va_up_self, lay_5]
  · rw [va_up_ne _ _ q]
    unfold layN
    by_cases q6 : k = 18 + 7 * t + 6
    · subst q6; rw [va_up_self, va_up_self]
    · rw [va_up_ne _ _ q6, va_up_ne _ _ q6, va_up_ne _ _ q, va_up_ne _ _ q]
end LAY
theorem m_lays {M : RowS} {t : Nat} (ht : t < 12) (a b c d e : Int32) : f_X8_laysTube M (nI t) a b c d e = some (mk M (layN (M.1 1) t a b c d e 0) (M.2 5)) := by
  have c0 : f_X8_cell (nI t) 0 = nI (18 + 7 * t + 0) := m_cell t 0
  have c1 : f_X8_cell (nI t) 1 = nI (18 + 7 * t + 1) := m_cell t 1
  have c2 : f_X8_cell (nI t) 2 = nI (18 + 7 * t + 2) := m_cell t 2
  have c3 : f_X8_cell (nI t) 3 = nI (18 + 7 * t + 3) := m_cell t 3
  have c4 : f_X8_cell (nI t) 4 = nI (18 + 7 * t + 4) := m_cell t 4
  have c5 : f_X8_cell (nI t) 5 = nI (18 + 7 * t + 5) := m_cell t 5
  have c6 : f_X8_cell (nI t) 6 = nI (18 + 7 * t + 6) := m_cell t 6
  have hi : ∀ k, k < 7 → 0 ≤ (nI (18 + 7 * t + k)).toInt ∧ (nI (18 + 7 * t + k)).toInt < 102 := fun k hk => by rw [nI_toInt (by omega)]; omega
  have hn : ∀ k, k < 7 → (nI (18 + 7 * t + k)).toNatClampNeg = 18 + 7 * t + k := fun k hk => nI_clamp (by omega)
  unfold f_X8_laysTube
  rw [c0, c1, c2, c3, c4, c5, c6]
  simp only [lt, if_pos (hi 0 (by decide)), if_pos (hi 1 (by decide)), if_pos (hi 2 (by decide)), if_pos (hi 3 (by decide)), if_pos (hi 4 (by decide)), if_pos (hi 5 (by decide)), if_pos (hi 6 (by decide)), hn 0 (by decide), hn 1 (by decide), hn 2 (by decide), hn 3 (by decide), hn 4 (by decide), hn 5 (by decide), hn 6 (by decide)]
  rw [si_mk (M := M), mk_si, mk_si, mk_si, mk_si, mk_si, mk_si]
  rfl
/-- a tube comes behind the others -/
def addN (N : Nat → Int32) (t : Nat) (a b c d e f : Int32) : Nat → Int32 := va_up (layN N t a b c d e f) 2 (nI (t + 1))
theorem addN_no {N : Nat → Int32} {t k : Nat} {a b c d e f : Int32} (h : k < 18 + 7 * t ∨ 18 + 7 * t + 6 < k) (h2 : k ≠ 2) : addN N t a b c d e f k = N k := by
  unfold addN
  rw [va_up_ne _ _ h2, lay_no h]
theorem addN_tg {N : Nat → Int32} {t k : Nat} {a b c d e f : Int32} : tg (addN N t a b c d e f) t k = layN N t a b c d e f (18 + 7 * t + k) := by
  unfold tg addN
  rw [va_up_ne _ _ (by omega)]
theorem addN_cnt {N : Nat → Int32} {t : Nat} (ht : t < 12) {a b c d e f : Int32} : cnt (addN N t a b c d e f) = t + 1 := by
  unfold cnt addN
  rw [va_up_self, nI_clamp (by omega)]
theorem addN_wf {N : Nat → Int32} (h : wfN N) (ht : cnt N < 12) {a b c d e f : Int32} (ha : bd a 0 1) (hb : 0 ≤ b.toInt ∧ b.toInt < (N 0).toInt) (hc : bd c 1 20) (hd : bd d 50 1000) (he : bd e 10 2000) (hf : bd f (-9999) 9999) : wfN (addN N (cnt N) a b c d e f) := by
  obtain ⟨h1, h2, h3, h4, h5, h6⟩ := h
  refine ⟨by rw [addN_no (by omega) (by omega)]; exact h1, by rw [addN_no (by omega) (by omega)]; exact h2, ?_, fun p hp => by rw [addN_no (by omega) (by omega)]; exact h4 p hp, fun j hj => ?_, fun t ht' => ?_⟩
  · unfold addN
    rw [va_up_self]
    unfold bd
    rw [nI_toInt (by omega)]
    omega
  · have e : ∀ k, k < 3 → lg (addN N (cnt N) a b c d e f) j k = lg N j k := fun k hk => addN_no (by omega) (by omega)
    rw [e 0 (by decide), e 1 (by decide), e 2 (by decide)]
    exact h5 j hj
  · rw [addN_cnt ht] at ht'
    by_cases q : t = cnt N
    · subst q
      rw [addN_tg, addN_tg, addN_tg, addN_tg, addN_tg, addN_tg, addN_tg, lay_0, lay_1, lay_2, lay_3, lay_4, lay_5, lay_6, addN_no (k := 0) (by omega) (by omega)]
      exact ⟨ha, hb.1, hb.2, hc, hd, he, hf, by unfold bd; decide⟩
    · have e : ∀ k, k < 7 → tg (addN N (cnt N) a b c d e f) t k = tg N t k := fun k hk => addN_no (by omega) (by omega)
      rw [e 0 (by decide), e 1 (by decide), e 2 (by decide), e 3 (by decide), e 4 (by decide), e 5 (by decide), e 6 (by decide), addN_no (k := 0) (by omega) (by omega)]
      exact h6 t (by omega)
theorem addN_wfS {N : Nat → Int32} {S : Nat → Int64} (hS : wfS N S) {t : Nat} {a b c d e f : Int32} : wfS (addN N t a b c d e f) S := by
  intro j hj
  have e0 : lg (addN N t a b c d e f) j 0 = lg N j 0 := addN_no (by omega) (by omega)
  have e1 : lg (addN N t a b c d e f) j 1 = lg N j 1 := addN_no (by omega) (by omega)
  unfold lowL
  rw [e0, e1]
  exact hS j hj
theorem addN_zb {N : Nat → Int32} {S : Nat → Int64} (z : ZB N S) {t : Nat} (ht : t < 12) {a b c d e f : Int32} : ZB (addN N t a b c d e f) S := ⟨fun k hk => by rw [addN_no (by omega) (by omega)]; exact z.1 k hk, z.2⟩
def addR (R : RowS) (t : Nat) (a b c d e : Int32) : RowS := stT (stT (si R 0 2 (nI (t + 1))) (t + 5) (f_X6_stand ((si R 0 2 (nI (t + 1))).1 (t + 5)) a b)) (t + 5) (f_X6_shape (f_X6_stand ((si R 0 2 (nI (t + 1))).1 (t + 5)) a b) c d e)
theorem addR_rel {R : RowS} {N : Nat → Int32} {S : Nat → Int64} (h : wfN N) (r : Rel R N S) (ht : cnt N < 12) {a b c d e : Int32} : Rel (addR R (cnt N) a b c d e) (addN N (cnt N) a b c d e 0) S := by
  obtain ⟨r1, r2, r3, r4, r5, r6⟩ := r
  have ne : ∀ q, q ≠ cnt N + 5 → (addR R (cnt N) a b c d e).1 q = (si R 0 2 (nI (cnt N + 1))).1 q := fun q hq => by
    unfold addR
    rw [stT_1n hq, stT_1n hq]
  have at_ : (addR R (cnt N) a b c d e).1 (cnt N + 5) = f_X6_shape (f_X6_stand ((si R 0 2 (nI (cnt N + 1))).1 (cnt N + 5)) a b) c d e := by
    unfold addR
    rw [stT_1]
  refine ⟨?_, ?_, ?_, fun p hp => ?_, fun j hj => ?_, fun t ht' k hk => ?_⟩
  · rw [ne 0 (by omega), si_ne (Or.inr (by decide)), addN_no (by omega) (by omega)]; exact r1
  · rw [ne 0 (by omega), si_ne (Or.inr (by decide)), addN_no (by omega) (by omega)]; exact r2
  · rw [ne 0 (by omega), si_at]
    unfold addN
    rw [va_up_self]
  · rw [ne 1 (by omega), si_ne (Or.inl (by decide)), addN_no (by omega) (by omega)]; exact r4 p hp
  · have el : ∀ k, k < 3 → lg (addN N (cnt N) a b c d e 0) j k = lg N j k := fun k hk => addN_no (by omega) (by omega)
    rw [el 0 (by decide), el 1 (by decide), el 2 (by decide)]
    have e2 : (addR R (cnt N) a b c d e).2 = R.2 := rfl
    rw [e2, ne (j + 2) (by omega), si_ne (Or.inl (by omega)), si_ne (Or.inl (by omega)), si_ne (Or.inl (by omega))]
    exact r5 j hj
  · rw [addN_cnt ht] at ht'
    by_cases q : t = cnt N
    · subst q
      rw [at_, addN_tg]
      have hk' : k = 0 ∨ k = 1 ∨ k = 2 ∨ k = 3 ∨ k = 4 ∨ k = 5 ∨ k = 6 := by omega
      rcases hk' with rfl | rfl | rfl | rfl | rfl | rfl | rfl
      · rw [lay_0]; rfl
      · rw [lay_1]; rfl
      · rw [lay_2]; rfl
      · rw [lay_3]; rfl
      · rw [lay_4]; rfl
      · rw [lay_5]; rfl
      · rw [lay_6]; rfl
    · have e : tg (addN N (cnt N) a b c d e 0) t k = tg N t k := addN_no (by omega) (by omega)
      rw [e, ne (t + 5) (by omega), si_ne (Or.inl (by omega))]
      exact r6 t (by omega) k hk
section ADD
variable {P : RowsS} {G : GlbS} {M : RowS}
theorem ok_addTube (I : Inv P G M) (a1 a2 a3 a4 a5 : Int32) : OK_addTube Inv P G M a1 a2 a3 a4 a5 := by
  unfold OK_addTube f_X7_addTube t_X7_addTube f_X8_addTube b_X8_addTube_25 b_X8_addTube_26 b_X8_addTube_73 b_X8_addTube_74
  have I0 : Inv P G (si M 0 0 0) := I
  have t0 : (si M 0 0 0).1 0 0 = 0 := si_at
  simp only [lt, isSlant_eq]
  generalize si M 0 0 0 = M0 at I0 t0 ⊢
  have g := I0.1
  have h := g.1
  have r := g.2.2.2.2.1
  have hcn := cnt_le h
  have e2 : (2 : Int32).toNatClampNeg = 2 := rfl
  rcases leg_cases a1 with ⟨j, p1, p3, p4, p5, p6⟩ | ⟨p4, p5, p6⟩
  · rcases point_cases (G := G) h r.1 a2 with ⟨p, o1, o2, o3, o4, o5, o6⟩ | ⟨o4, o5, o6⟩
    · rcases within_cases a3 1 20 (lo6 := 1) (hi6 := 20) rfl rfl with ⟨x1, x2, x4, x5, x6⟩ | ⟨x4, x5, x6⟩
      · rcases within_cases a4 50 1000 (lo6 := 50) (hi6 := 1000) rfl rfl with ⟨y1, y2, y4, y5, y6⟩ | ⟨y4, y5, y6⟩
        · rcases within_cases a5 10 2000 (lo6 := 10) (hi6 := 2000) rfl rfl with ⟨z1, z2, z4, z5, z6⟩ | ⟨z4, z5, z6⟩
          · left
            simp only [p4, p6, o4, o6, x4, x6, y4, y6, z4, z6, ob_some, fails_t t0, ff_t, tt_t, if_true, if_false, r.2.2.1, e2, n2 h]
            rw [show (12 : Int32) = nI 12 from rfl]
            by_cases hq : cnt (M0.1 1) < 12
            · have q1 : nI (cnt (M0.1 1)) < nI 12 := nI_lt hq (by omega)
              have q2 : ¬ nI (cnt (M0.1 1)) = nI 12 := by rw [nI_eq (by omega) (by omega)]; omega
              obtain ⟨P1, G1, M1, k1, k2, k3, k4, k5, k6⟩ := keep_ok I0
              have e1 : M1.1 1 = M0.1 1 := k5.1 1 (by decide) (by decide)
              have e5 : M1.2 5 = M0.2 5 := k5.2.1 5 (by decide)
              have e0 : P1 0 = P 0 := k3 0 (by decide)
              have ha : bd a1 0 1 := by
                rw [p3]
                unfold bd
                rw [nI_toInt (by omega)]; omega
              have hb : 0 ≤ a2.toInt ∧ a2.toInt < (M0.1 1 0).toInt := by rw [o3, nI_toInt (by omega)]; exact ⟨by omega, o2⟩
              have w := addN_wf h hq ha hb ⟨x1, x2⟩ ⟨y1, y2⟩ ⟨z1, z2⟩ (show bd (0 : Int32) (-9999) 9999 by unfold bd; decide)
              have ws := addN_wfS g.2.1 (t := cnt (M0.1 1)) (a := a1) (b := a2) (c := a3) (d := a4) (e := a5) (f := 0)
              obtain ⟨R2, f1, f2, f3, f4⟩ := finish (P := P1) (G := G1) (M := M1) (rest_keep I0 k3 k4 k5 k6) w ws (addN_zb g.2.2.1 hq) (addR_rel h r hq (a := a1) (b := a2) (c := a3) (d := a4) (e := a5))
              obtain ⟨c, s1, s2, s3, s4, s5, s6, s7, s8⟩ := settle_facts w ws
              generalize settleS (addN (M0.1 1) (cnt (M0.1 1)) a1 a2 a3 a4 a5 0) (M0.2 5) = y at f1 f2 f3 f4 s2 s3 s4 s5 s6 s7 s8
              have hcy : R2.1 0 2 = nI (cnt (M0.1 1) + 1) := by
                rw [f4.2.2.2.2.1.2.2.1, n2 f4.1, st_cnt s4, addN_cnt hq]
              refine ⟨200, nI (cnt (M0.1 1)), va_up P1 0 R2, G1, 200, nI (cnt (M0.1 1)), mk M1 y.2.1 y.2.2, ?_, ?_, ?_, rfl, f3⟩
              · rw [if_pos q1, k1, ob_some]
                have hap : f_X3_append (P 0) = (cnt (M0.1 1), si (P 0) 0 2 (nI (cnt (M0.1 1) + 1))) := by
                  unfold f_X3_append
                  rw [r.2.2.1, n2 h, show (12 : Int32) = nI 12 from rfl, if_pos q1, nI_1, lt_eq, si_at, nI_pred, c_tubeAt (by omega)]
                  rfl
                have hR : (va_up (va_up P1 0 (si (P 0) 0 2 (nI (cnt (M0.1 1) + 1)))) 0 (stT (va_up P1 0 (si (P 0) 0 2 (nI (cnt (M0.1 1) + 1))) 0) (cnt (M0.1 1) + 5) (f_X6_stand ((va_up P1 0 (si (P 0) 0 2 (nI (cnt (M0.1 1) + 1))) 0).1 (cnt (M0.1 1) + 5)) a1 a2))) = va_up P1 0 (stT (si (P 0) 0 2 (nI (cnt (M0.1 1) + 1))) (cnt (M0.1 1) + 5) (f_X6_stand ((si (P 0) 0 2 (nI (cnt (M0.1 1) + 1))).1 (cnt (M0.1 1) + 5)) a1 a2)) := by
                  rw [up_up, va_up_self]
                simp only [e0, hap]
                unfold upT
                simp only [hR, va_up_self, up_up, stT_1]
                have hA : stT (stT (si (P 0) 0 2 (nI (cnt (M0.1 1) + 1))) (cnt (M0.1 1) + 5) (f_X6_stand ((si (P 0) 0 2 (nI (cnt (M0.1 1) + 1))).1 (cnt (M0.1 1) + 5)) a1 a2)) (cnt (M0.1 1) + 5) (f_X6_shape (f_X6_stand ((si (P 0) 0 2 (nI (cnt (M0.1 1) + 1))).1 (cnt (M0.1 1) + 5)) a1 a2) a3 a4 a5) = addR (P 0) (cnt (M0.1 1)) a1 a2 a3 a4 a5 := rfl
                rw [hA, f1, ob_some]
                simp only [hcy, nI_pred]
              · rw [if_pos (by decide), if_neg q2, k2, ob_some, m_lays (by omega), ob_some, if_pos (by decide), nI_1, mk_si, e1, e5]
                have hN : va_up (layN (M0.1 1) (cnt (M0.1 1)) a1 a2 a3 a4 a5 0) 2 (nI (cnt (M0.1 1) + 1)) = addN (M0.1 1) (cnt (M0.1 1)) a1 a2 a3 a4 a5 0 := rfl
                rw [hN, f2, ob_some]
              · show (mk M1 _ _).1 0 0 = 0
                rw [mk_1n (by decide), k5.2.2 0 (by decide)]
                exact t0
            · have hq12 : cnt (M0.1 1) = 12 := by omega
              refine ⟨200, -2, P, G, 200, -2, M0, ?_, ?_, t0, rfl, I0⟩
              · rw [if_neg (by rw [nI_ltI (by omega) (by omega)]; omega)]
              · rw [if_pos (by decide), hq12, if_pos rfl]
          · right; right
            simp only [p4, p5, p6, o4, o5, o6, x4, x5, x6, y4, y5, y6, z5, z6, ob_some, fails_t t0, fails_f t0 n2_0, ff_t, tt_t, if_true, if_false, zz_t, z2_t, true_and]
            exact ⟨100, _, _, rfl, thr0 2, I0⟩
        · right; right
          simp only [p4, p5, p6, o4, o5, o6, x4, x5, x6, y5, y6, ob_some, fails_t t0, fails_f t0 n2_0, ff_t, tt_t, if_true, if_false, zz_t, z2_t, true_and]
          exact ⟨100, _, _, rfl, thr0 2, I0⟩
      · right; right
        simp only [p4, p5, p6, o4, o5, o6, x5, x6, ob_some, fails_t t0, fails_f t0 n2_0, ff_t, tt_t, if_true, if_false, zz_t, z2_t, true_and]
        exact ⟨100, _, _, rfl, thr0 2, I0⟩
    · right; left
      simp only [p4, p5, p6, o5, o6, ob_some, fails_f t0 n1_0, ff_t, tt_t, if_true, if_false, zz_t, z1_t, true_and]
      exact ⟨100, _, _, rfl, thr0 1, I0⟩
  · right; left
    simp only [p5, p6, ob_some, fails_f t0 n1_0, ff_t, tt_t, if_true, if_false, z1_t, true_and]
    exact ⟨100, _, _, rfl, thr0 1, I0⟩
end ADD
