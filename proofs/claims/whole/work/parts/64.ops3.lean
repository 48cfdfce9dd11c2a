/-! OPERATIONS 3: setMark, refill, sweep -/
/-- the same but for the marks of tubes -/
def MkEq (N N' : Nat → Int32) : Prop := ∀ k, (∀ t, t < 12 → k ≠ 18 + 7 * t + 5) → N' k = N k
section MK5
variable {N N' : Nat → Int32} {S : Nat → Int64} {t : Nat}
theorem mq_cnt (e : MkEq N N') : cnt N' = cnt N := by
  unfold cnt
  rw [e 2 (fun t _ => by omega)]
theorem mq_tg (e : MkEq N N') {k : Nat} (hk : k < 7) (h5 : k ≠ 5) : tg N' t k = tg N t k := e _ (fun u _ => by omega)
theorem mq_lg (e : MkEq N N') {j k : Nat} (hj : j < 2) (hk : k < 3) : lg N' j k = lg N j k := e _ (fun u _ => by omega)
theorem mq_lgOf (e : MkEq N N') : lgOf N' t = lgOf N t := by
  unfold lgOf
  rw [mq_tg e (by decide) (by decide)]
theorem mq_pull (e : MkEq N N') (h : wfN N) (ht : t < cnt N) : pullS N' t = pullS N t := by
  have := ptOf_lt h ht
  have ep : ptOf N' t = ptOf N t := by unfold ptOf; rw [mq_tg e (by decide) (by decide)]
  unfold pullS
  rw [ep, mq_lgOf e, mq_lg e (lgOf_lt h ht) (by decide), e 1 (fun u _ => by omega), e (4 + ptOf N t) (fun u _ => by omega)]
theorem mq_men (e : MkEq N N') (h : wfN N) (ht : t < cnt N) : menS N' t = menS N t := by
  unfold menS
  rw [mq_lgOf e, mq_lg e (lgOf_lt h ht) (by decide), mq_tg e (by decide) (by decide)]
theorem mq_run (e : MkEq N N') (h : wfN N) (ht : t < cnt N) (L : Int64) : runS N' t L = runS N t L := by
  unfold runS
  rw [mq_pull e h ht, mq_men e h ht, mq_tg e (by decide) (by decide)]
theorem mq_full (e : MkEq N N') : fullS N' t = fullS N t := by
  unfold fullS
  rw [mq_tg e (by decide) (by decide)]
theorem mq_col (e : MkEq N N') (h : wfN N) (ht : t < cnt N) (L : Int64) : colS N' t L = colS N t L := by
  unfold colS
  rw [mq_run e h ht, mq_full e, mq_tg e (by decide) (by decide)]
theorem mq_colZ (e : MkEq N N') (h : wfN N) (ht : t < cnt N) (x : Int) : colZ N' t x = colZ N t x := by
  unfold colZ runZ
  rw [mq_pull e h ht, mq_men e h ht, mq_full e, mq_tg e (by decide) (by decide), mq_tg e (by decide) (by decide)]
theorem mq_volZ (e : MkEq N N') (h : wfN N) (j : Nat) (x : Int) : ∀ n, n ≤ cnt N → volZ N' j x n = volZ N j x n := by
  intro n
  induction n with
  | zero => intro _; rfl
  | succ n ih =>
    intro hn
    simp only [volZ]
    rw [ih (by omega), mq_lgOf e, mq_colZ e h (by omega)]
    unfold b2
    rw [mq_tg e (by decide) (by decide)]
theorem mq_lev (e : MkEq N N') (h : wfN N) (h' : wfN N') (hS : wfS N S) (hS' : wfS N' S) {j : Nat} (hj : j < 2) : levS N' S j = levS N S j := by
  have h1 := lev_is h' hS' hj
  refine lev_eq h hS hj ?_
  unfold IsLev at h1 ⊢
  rw [mq_cnt e, mq_volZ e h _ _ _ (Nat.le_refl _), mq_volZ e h _ _ _ (Nat.le_refl _), mq_lg e hj (by decide)] at h1
  exact h1
end MK5
theorem mark_good {R : RowS} {N : Nat → Int32} {S : Nat → Int64} (g : Good R N S) {t : Nat} (ht : t < cnt N) {v : Int32} (hv : bd v (-9999) 9999) : Good (si R (t + 5) 5 v) (va_up N (18 + 7 * t + 5) v) S ∧ Quiet (va_up N (18 + 7 * t + 5) v) S := by
  have h := g.1
  have hc := cnt_le h
  have e : MkEq N (va_up N (18 + 7 * t + 5) v) := fun k hk => va_up_ne _ _ (hk t (by omega))
  have h' : wfN (va_up N (18 + 7 * t + 5) v) := wf_cell h (by omega) (fun e => by omega) (fun q hq e => by omega) (fun j hj => ⟨by omega, by omega, by omega⟩) (fun u hu => ⟨by omega, by omega, by omega, by omega, by omega, fun _ => hv, by omega⟩)
  have hS' : wfS (va_up N (18 + 7 * t + 5) v) S := wfS_cell g.2.1 (by omega)
  have hq : Quiet (va_up N (18 + 7 * t + 5) v) S := by
    intro j hj u hu h1 h2
    rw [mq_cnt e] at hu
    rw [mq_lgOf e] at h1
    rw [mq_tg e (by decide) (by decide)] at h2
    rw [mq_lev e h h' g.2.1 hS' hj, mq_run e h hu, mq_full e]
    exact g.2.2.2.1 j hj u hu h1 h2
  have r := g.2.2.2.2
  refine ⟨⟨h', hS', zb_cell g.2.2.1 (by omega), hq, rel_cell h r.1 (by omega) (fun k hk => by omega) (fun q hq => by omega) (fun j hj k hk => by omega) (fun t ht k hk => by omega), fun u hu => ?_, fun j hj => ?_, fun u hu => ?_⟩, hq⟩
  · rw [mq_cnt e] at hu
    rw [si_ne (Or.inr (by decide)), si_ne (Or.inr (by decide)), mq_pull e h hu, mq_men e h hu]
    exact r.2.1 u hu
  · rw [si_2, mq_lev e h h' g.2.1 hS' hj]
    exact r.2.2.1 j hj
  · rw [mq_cnt e] at hu
    rw [si_ne (Or.inr (by decide)), mq_lgOf e, mq_lev e h h' g.2.1 hS' (lgOf_lt h hu), mq_col e h hu]
    exact r.2.2.2 u hu
section OPS3
variable {P : RowsS} {G : GlbS} {M : RowS}
theorem ok_setMark (I : Inv P G M) (a1 : Int32) : OK_setMark Inv P G M a1 := by
  unfold OK_setMark f_X7_setMark t_X7_setMark f_X8_setMark
  have I0 : Inv P G (si M 0 0 0) := I
  have t0 : (si M 0 0 0).1 0 0 = 0 := si_at
  simp only [lt]
  generalize si M 0 0 0 = M0 at I0 t0 ⊢
  have g := I0.1
  have h := g.1
  rcases tube_cases (G := G) g.1 g.2.2.2.2.1.2.2.1 a1 with ⟨t, p1, p2, p3, p4, p5, p6⟩ | ⟨p4, p5, p6⟩
  · left
    subst p3
    have e : f_X8_cell (nI t) 5 = nI (18 + 7 * t + 5) := m_cell t 5
    simp only [p4, p6, ob_some, b2i_t, fails_t t0, ff_t, c_tubeAt (R := P 0) p2, m_whole p2, c_tg g p1 (show 6 < 7 by decide), c_column g p1, e]
    by_cases h6 : tg (M0.1 1) t 6 = 0
    · have hcol := column_int h g.2.1 p1
      have hful := full_int h p1
      have e10 : (10 : Int32).toInt = 10 := rfl
      have d1 : (columnS (M0.1 1) (M0.2 5) t / 10).toInt = (columnS (M0.1 1) (M0.2 5) t).toInt / 10 := by rw [i32_div (by omega), e10, Int.tdiv_eq_ediv_of_nonneg (by omega)]
      have d2 : (-(columnS (M0.1 1) (M0.2 5) t / 10)).toInt = -((columnS (M0.1 1) (M0.2 5) t).toInt / 10) := by
        rw [← Int32.zero_sub, i32_sub (by rw [d1, show (0 : Int32).toInt = 0 from rfl]; omega), d1, show (0 : Int32).toInt = 0 from rfl]; omega
      have em : (-9999 : Int32).toInt = -9999 := rfl
      obtain ⟨v, hv⟩ : ∃ v, v = -(columnS (M0.1 1) (M0.2 5) t / 10) := ⟨_, rfl⟩
      rw [← hv] at d2 ⊢
      by_cases hm : (-9999) ≤ v
      · have hb : bd v (-9999) 9999 := by rw [i32_le, em] at hm; unfold bd; omega
        obtain ⟨P1, G1, M1, k1, k2, k3, k4, k5, k6⟩ := keep_ok I0
        have e1 : M1.1 1 = M0.1 1 := k5.1 1 (by decide) (by decide)
        have e5 : M1.2 5 = M0.2 5 := k5.2.1 5 (by decide)
        have e0 : P1 0 = P 0 := k3 0 (by decide)
        have mg := mark_good g p1 hb
        have ms := m_settle (M := M1) mg.1.1 mg.1.2.1 (n := 200) (by omega)
        rw [settle_quiet mg.1.1 mg.2] at ms
        have m := m_sets (M := M0) (M1 := M1) (i := 18 + 7 * t + 5) (v := v) (by omega) k2 (by rw [e1, e5]; exact ms)
        refine ⟨200, v, va_up P1 0 (si (P 0) (t + 5) 5 v), G1, 200, v, mk M1 (va_up (M0.1 1) (18 + 7 * t + 5) v) (M0.2 5), ?_, ?_, ?_, rfl, ?_⟩
        · rw [if_pos h6, if_pos hm, k1, ob_some]
          simp only [e0]
        · rw [if_pos h6, ob_some, tt_t, m_column h g.2.1 p1 (by omega), ob_some, ← hv, if_pos hm, m, ob_some]
        · show (mk M1 _ _).1 0 0 = 0
          rw [mk_1n (by decide), k5.2.2 0 (by decide)]
          exact t0
        · refine ⟨?_, rest_row (rest_keep I0 k3 k4 k5 k6)⟩
          rw [va_up_self, mk_1, mk_2]
          exact mg.1
      · refine ⟨200, -1000000001, P, G, 200, -1000000001, M0, ?_, ?_, t0, rfl, I0⟩
        · rw [if_pos h6, if_neg hm]
        · rw [if_pos h6, ob_some, tt_t, m_column h g.2.1 p1 (by omega), ob_some, ← hv, if_neg hm]
    · refine ⟨200, -1000000000, P, G, 200, -1000000000, M0, if_neg h6, ?_, t0, rfl, I0⟩
      rw [if_neg h6, ob_some, ff_t]
  · right
    simp only [p5, p6, ob_some, b2i_f, fails_f t0 n1_0, tt_t, if_true, if_false, z1_t, true_and]
    exact ⟨100, _, _, rfl, thr0 1, I0⟩
theorem ok_refill (I : Inv P G M) (a1 a2 : Int32) : OK_refill Inv P G M a1 a2 := by
  unfold OK_refill f_X7_refill t_X7_refill f_X8_refill
  have I0 : Inv P G (si M 0 0 0) := I
  have t0 : (si M 0 0 0).1 0 0 = 0 := si_at
  simp only [lt]
  generalize si M 0 0 0 = M0 at I0 t0 ⊢
  have g := I0.1
  have h := g.1
  have r := g.2.2.2.2.1
  rcases leg_cases a1 with ⟨j, p1, p3, p4, p5, p6⟩ | ⟨p4, p5, p6⟩
  · rcases within_cases a2 1 99999999 (lo6 := 1) (hi6 := 99999999) rfl rfl with ⟨q1, q2, q4, q5, q6⟩ | ⟨q4, q5, q6⟩
    · left
      subst p3
      have d1 : (1 : Int32).toInt = 1 := rfl
      have d2 : (99999999 : Int32).toInt = 99999999 := rfl
      have d3 : (2000000000 : Int64).toInt = 2000000000 := rfl
      rw [d1] at q1
      rw [d2] at q2
      have e4 : (4 : Int32) + nI j = nI (4 + j) := by rw [show (4 : Int32) = nI 4 from rfl, nI_add]
      have i4 : 0 ≤ (nI (4 + j)).toInt ∧ (nI (4 + j)).toInt < 6 := by rw [nI_toInt (by omega)]; omega
      have i0 : 0 ≤ (nI j).toInt ∧ (nI j).toInt < 6 := by rw [nI_toInt (by omega)]; omega
      have n4 : (nI (4 + j)).toNatClampNeg = 4 + j := nI_clamp (by omega)
      have n0 : (nI j).toNatClampNeg = j := nI_clamp (by omega)
      have hs := g.2.1 j p1
      have hsb := S_bd h g.2.1 p1
      have s1 : (M0.2 5 (4 + j) + a2.toInt64).toInt = (M0.2 5 (4 + j)).toInt + a2.toInt := by rw [i64_add (by rw [i32_ext]; omega), i32_ext]
      have s2 : (M0.2 5 j + a2.toInt64).toInt = (M0.2 5 j).toInt + a2.toInt := by rw [i64_add (by rw [i32_ext]; omega), i32_ext]
      simp only [p4, p6, q4, q6, ob_some, b2i_t, fails_t t0, ff_t, e4, if_pos i4, m_stock, if_pos i0, n4, n0, c_legAt p1, (r.2.2.2.2.1 j p1).2.2.2.2.2]
      by_cases hq : M0.2 5 (4 + j) + a2.toInt64 ≤ 2000000000
      · have hq' := hq
        rw [i64_le, s1, d3] at hq'
        obtain ⟨P1, G1, M1, k1, k2, k3, k4, k5, k6⟩ := keep_ok I0
        have e1 : M1.1 1 = M0.1 1 := k5.1 1 (by decide) (by decide)
        have e5 : M1.2 5 = M0.2 5 := k5.2.1 5 (by decide)
        have e0 : P1 0 = P 0 := k3 0 (by decide)
        obtain ⟨S', hS'⟩ : ∃ S', S' = va_up (va_up (M0.2 5) j (M0.2 5 j + a2.toInt64)) (4 + j) (M0.2 5 (4 + j) + a2.toInt64) := ⟨_, rfl⟩
        have w : wfS (M0.1 1) S' := by
          intro i hi
          have hsi := g.2.1 i hi
          by_cases q : i = j
          · subst q
            have x1 : S' i = M0.2 5 i + a2.toInt64 := by rw [hS', va_up_ne _ _ (by omega), va_up_self]
            have x2 : S' (4 + i) = M0.2 5 (4 + i) + a2.toInt64 := by rw [hS', va_up_self]
            rw [x1, x2, s1, s2]
            omega
          · have x1 : S' i = M0.2 5 i := by rw [hS', va_up_ne _ _ (by omega), va_up_ne _ _ q]
            have x2 : S' (4 + i) = M0.2 5 (4 + i) := by rw [hS', va_up_ne _ _ (by omega), va_up_ne _ _ (by omega)]
            rw [x1, x2]
            exact hsi
        have z : ZB (M0.1 1) S' := ⟨g.2.2.1.1, fun k hk => by rw [hS', va_up_ne _ _ (by omega), va_up_ne _ _ (by omega)]; exact g.2.2.1.2 k hk⟩
        have r1 := rel_sl3 (v := M0.2 5 j + a2.toInt64) r p1
        have r2 := rel_sl5 (v := M0.2 5 (4 + j) + a2.toInt64) r1 p1
        rw [← hS'] at r2
        obtain ⟨R2, f1, f2, f3, f4⟩ := finish (P := P1) (G := G1) (M := M1) (rest_keep I0 k3 k4 k5 k6) h w z r2
        have y3 : (P 0).2 (j + 2) 3 = M0.2 5 j := (r.2.2.2.2.1 j p1).2.2.2.1
        have y5 : (sl (P 0) (j + 2) 3 (M0.2 5 j + a2.toInt64)).2 (j + 2) 5 = M0.2 5 (4 + j) := by
          rw [(r1.2.2.2.2.1 j p1).2.2.2.2.2, va_up_ne _ _ (by omega)]
        generalize settleS (M0.1 1) S' = y at f1 f2 f3 f4
        refine ⟨200, y.1, va_up P1 0 R2, G1, 200, y.1, mk M1 y.2.1 y.2.2, ?_, ?_, ?_, rfl, f3⟩
        · rw [if_pos hq, k1, ob_some]
          simp only [va_up_self, up_up, e0, y3, y5, f1, ob_some]
        · have x4 : (sl M1 5 j (M0.2 5 j + a2.toInt64)).2 5 (4 + j) = M0.2 5 (4 + j) := by rw [sl_ne (Or.inr (by omega)), e5]
          have xm : sl (sl M1 5 j (M0.2 5 j + a2.toInt64)) 5 (4 + j) (M0.2 5 (4 + j) + a2.toInt64) = mk M1 (M0.1 1) S' := by
            rw [← mk_id (M := M1), mk_sl, mk_sl, mk_mk, e1, e5, hS']
          rw [if_pos hq, k2, ob_some]
          simp only [e5, x4, xm, f2, ob_some]
        · show (mk M1 _ _).1 0 0 = 0
          rw [mk_1n (by decide), k5.2.2 0 (by decide)]
          exact t0
      · exact ⟨200, -2, P, G, 200, -2, M0, if_neg hq, if_neg hq, t0, rfl, I0⟩
    · right; right
      simp only [p4, p5, p6, q5, q6, ob_some, b2i_t, b2i_f, fails_t t0, fails_f t0 n2_0, ff_t, tt_t, if_true, if_false, zz_t, z2_t, true_and]
      exact ⟨100, _, _, rfl, thr0 2, I0⟩
  · right; left
    simp only [p5, p6, ob_some, b2i_f, fails_f t0 n1_0, tt_t, if_true, if_false, z1_t, true_and]
    exact ⟨100, _, _, rfl, thr0 1, I0⟩
end OPS3
