/-! SETTLE, the model -/
def mk (M : RowS) (N : Nat → Int32) (S : Nat → Int64) : RowS := (va_up M.1 1 N, va_up M.2 5 S)
section MK
variable {M : RowS} {N N' : Nat → Int32} {S S' : Nat → Int64}
theorem mk_1 : (mk M N S).1 1 = N := by unfold mk; simp only [va_up_self]
theorem mk_2 : (mk M N S).2 5 = S := by unfold mk; simp only [va_up_self]
theorem mk_1n {c : Nat} (h : c ≠ 1) : (mk M N S).1 c = M.1 c := by unfold mk; exact va_up_ne _ _ h
theorem mk_2n {c : Nat} (h : c ≠ 5) : (mk M N S).2 c = M.2 c := by unfold mk; exact va_up_ne _ _ h
theorem mk_mk : mk (mk M N S) N' S' = mk M N' S' := by unfold mk; rw [up_up, up_up]
theorem mk_id : mk M (M.1 1) (M.2 5) = M := by unfold mk; rw [up_self, up_self]
theorem mk_si {k : Nat} {v : Int32} : si (mk M N S) 1 k v = mk M (va_up N k v) S := by unfold si; rw [mk_1]; unfold mk; rw [up_up]
theorem mk_sl {k : Nat} {v : Int64} : sl (mk M N S) 5 k v = mk M N (va_up S k v) := by unfold sl; rw [mk_2]; unfold mk; rw [up_up]
end MK
theorem in_ff {x f : Int64} : f_X8_in x 0 f = true ↔ 0 ≤ x ∧ x ≤ f := by
  unfold f_X8_in
  simp only [i64_lt, i64_le]
  by_cases h1 : x.toInt < (0 : Int64).toInt
  · rw [if_pos h1]; constructor
    · intro q; cases q
    · intro q; omega
  · rw [if_neg h1]
    by_cases h2 : f.toInt < x.toInt
    · rw [if_pos h2]; constructor
      · intro q; cases q
      · intro q; omega
    · rw [if_neg h2]; exact ⟨fun _ => by omega, fun _ => rfl⟩
theorem m_bstep {M : RowS} {N : Nat → Int32} {S : Nat → Int64} (h : wfN N) {j : Nat} (hj : j < 2) {i : Nat} (hi : i < cnt N) (L : Int64) (z : Int32) : l_X8_breaks_12 (nI j) L z (nI i) (mk M N S) = some (.inl ((bstep j L i (z, N, S)).1, nI (i + 1), mk M (bstep j L i (z, N, S)).2.1 (bstep j L i (z, N, S)).2.2)) := by
  have hc := cnt_le h
  have e2 : (2 : Int32).toNatClampNeg = 2 := rfl
  have h' : wfN ((mk M N S).1 1) := by rw [mk_1]; exact h
  have hi' : i < cnt ((mk M N S).1 1) := by rw [mk_1]; exact hi
  unfold l_X8_breaks_12
  rw [if_pos (by decide), e2, mk_1, n2 h, if_neg (by rw [nI_leI (by omega) (by omega)]; omega), m_of0 (by omega), ob_some, m_whole (by omega), m_run h' hi', m_full (by omega), mk_1]
  have g1 : 0 ≤ (nI (18 + 7 * i + 6)).toInt ∧ (nI (18 + 7 * i + 6)).toInt < 102 := by rw [nI_toInt (by omega)]; omega
  have g2 : (2 : Int32) + nI j = nI (2 + j) := by rw [show (2 : Int32) = nI 2 from rfl, nI_add]
  have g3 : f_X8_cell (nI i) 6 = nI (18 + 7 * i + 6) := m_cell i 6
  have g4 : 0 ≤ (nI j).toInt ∧ (nI j).toInt < 6 := by rw [nI_toInt (by omega)]; omega
  have g5 : 0 ≤ (nI (2 + j)).toInt ∧ (nI (2 + j)).toInt < 6 := by rw [nI_toInt (by omega)]; omega
  by_cases c1 : tg N i 0 = nI j
  · rw [if_pos c1]
    by_cases c2 : tg N i 6 = 0
    · rw [if_pos c2, ob_some, if_pos rfl, ob_some, ob_some, lt_eq]
      by_cases c3 : 0 ≤ runS N i L
      · by_cases c4 : runS N i L ≤ (fullS N i).toInt64
        · have hb : bstep j L i (z, N, S) = (z, N, S) := by unfold bstep; simp only [if_pos c1, if_pos c2, if_pos c3, if_pos c4]
          rw [if_pos (in_ff.mpr ⟨c3, c4⟩), hb]
          unfold b_X8_breaks_159
          simp only [lt, nI_1]
        · have hb : bstep j L i (z, N, S) = (z + 1, va_up N (18 + 7 * i + 6) 2, va_up (va_up S j (S j - fvol N i)) (2 + j) (S (2 + j) + fvol N i)) := by unfold bstep; simp only [if_pos c1, if_pos c2, if_pos c3, if_neg c4]
          rw [if_neg (fun q => c4 (in_ff.mp q).2), hb]
          simp only [lt, g3, if_pos c3]
          unfold b_X8_breaks_100 b_X8_breaks_159
          rw [if_pos g1, nI_clamp (by omega), lt_eq, if_pos c3]
          have k1 : fullS (va_up N (18 + 7 * i + 6) 2) i = fullS N i := st_full (st_up (by omega))
          have k2 : tg (va_up N (18 + 7 * i + 6) 2) i 2 = tg N i 2 := st_tg (st_up (by omega)) (by decide)
          have f1 : ∀ S2, f_X8_fullOf (mk M (va_up N (18 + 7 * i + 6) 2) S2) (nI i) = some (fullS N i) := fun S2 => by rw [m_full (by omega), mk_1, k1]
          have f2 : ∀ S2 x, f_X8_volumeFor (mk M (va_up N (18 + 7 * i + 6) 2) S2) (nI i) x = some ((x * (tg N i 2).toInt64) * (tg N i 2).toInt64) := fun S2 x => by rw [m_volfor (by omega), mk_1, k2]
          simp only [m_stock, g2, if_pos g4, if_pos g5, mk_si, f1, f2, ob_some, lt, mk_2, mk_sl, nI_clamp (show j < 2 ^ 31 by omega), nI_clamp (show 2 + j < 2 ^ 31 by omega), nI_1]
          rw [va_up_ne S _ (show 2 + j ≠ j by omega)]
          rfl
      · have hb : bstep j L i (z, N, S) = (z + 1, va_up N (18 + 7 * i + 6) 1, S) := by unfold bstep; simp only [if_pos c1, if_pos c2, if_neg c3]
        rw [if_neg (fun q => c3 (in_ff.mp q).1), hb]
        simp only [lt, g3, if_neg c3]
        unfold b_X8_breaks_100 b_X8_breaks_159
        rw [if_pos g1, nI_clamp (by omega), lt_eq, if_neg c3, mk_si]
        simp only [lt, nI_1]
    · have hb : bstep j L i (z, N, S) = (z, N, S) := by unfold bstep; simp only [if_pos c1, if_neg c2]
      rw [if_neg c2, ob_some, if_neg (by decide), hb]
      unfold b_X8_breaks_159
      simp only [lt, nI_1]
  · have hb : bstep j L i (z, N, S) = (z, N, S) := by unfold bstep; simp only [if_neg c1]
    rw [if_neg c1, hb]
    unfold b_X8_breaks_159
    simp only [lt, nI_1]
theorem m_breaks {M : RowS} {N : Nat → Int32} {S : Nat → Int64} (h : wfN N) (hS : wfS N S) {j : Nat} (hj : j < 2) {n : Nat} (hn : 60 < n) : f_X8_breaks n (mk M N S) (nI j) = some ((rnd j N S).1, mk M (rnd j N S).2.1 (rnd j N S).2.2) := by
  have hc := cnt_le h
  have e2 : (2 : Int32).toNatClampNeg = 2 := rfl
  have hl := m_level (M := mk M N S) (by rw [mk_1]; exact h) (by rw [mk_1, mk_2]; exact hS) hj hn
  rw [mk_1, mk_2] at hl
  have key := wl_count (f := fun t : Int32 × Int32 × RowS => l_X8_breaks_12 (nI j) (levS N S j) t.1 t.2.1 t.2.2) (fun i => ((brun j (levS N S j) i (0, N, S)).1, nI i, mk M (brun j (levS N S j) i (0, N, S)).2.1 (brun j (levS N S j) i (0, N, S)).2.2)) (cnt N) ((rnd j N S).1, mk M (rnd j N S).2.1 (rnd j N S).2.2) (fun i hi => by
    obtain ⟨c, y1, y2, y3, -⟩ := brun_facts h hS hj (levS N S j) i (by omega)
    exact m_bstep y3 hj (by rw [st_cnt y2]; exact hi) _ _) (by
    obtain ⟨c, y1, y2, y3, -⟩ := brun_facts h hS hj (levS N S j) (cnt N) (Nat.le_refl _)
    show l_X8_breaks_12 (nI j) (levS N S j) (rnd j N S).1 (nI (cnt N)) (mk M (rnd j N S).2.1 (rnd j N S).2.2) = _
    have y2' : StEq N (rnd j N S).2.1 := y2
    have y3' : wfN (rnd j N S).2.1 := y3
    unfold l_X8_breaks_12
    rw [if_pos (by decide), e2, mk_1, n2 y3', st_cnt y2', if_pos (by rw [nI_leI (by omega) (by omega)]; omega)]) n (by omega)
  have e : wloop (fun t : Int32 × Int32 × RowS => l_X8_breaks_12 (nI j) (levS N S j) t.1 t.2.1 t.2.2) n (0, 0, mk M N S) = some ((rnd j N S).1, mk M (rnd j N S).2.1 (rnd j N S).2.2) := key
  unfold f_X8_breaks
  rw [hl, ob_some, e]
  rfl
theorem m_setleg {M : RowS} {j : Nat} (hj : j < 2) {n : Nat} (hn : 60 < n) : ∀ (k : Nat) (N : Nat → Int32) (S : Nat → Int64) (acc : Int32) (m : Nat), wfN N → wfS N S → wh N (cnt N) < k → k < m → wloop (fun t : Int32 × Int32 × RowS => l_X8_settles_15 n (nI j) t.1 t.2.1 t.2.2) m (acc, (rnd j N S).1, mk M (rnd j N S).2.1 (rnd j N S).2.2) = some (acc + (sLeg j k N S).1, mk M (sLeg j k N S).2.1 (sLeg j k N S).2.2) := by
  intro k
  induction k with
  | zero => intro N S acc m _ _ hk; omega
  | succ k ih =>
    intro N S acc m h hS hk hm
    obtain ⟨m, rfl⟩ : ∃ i, m = i + 1 := ⟨m - 1, by omega⟩
    have hc := cnt_le h
    have hw := wh_le (N := N) (cnt N)
    obtain ⟨c, y1, y2, y3, y4, y5, y6, y7, y8, y9, -⟩ := rnd_facts h hS hj
    have hs := rnd_wfS h hS hj
    unfold sLeg
    by_cases hz : (rnd j N S).1 = 0
    · have c0 : c = 0 := (nI_z (by omega)).mp (y1.symm.trans hz)
      rw [if_pos hz, (y9 c0).1]
      refine wl_en ?_
      show l_X8_settles_15 n (nI j) acc 0 (mk M N S) = _
      unfold l_X8_settles_15
      rw [if_pos (by decide)]
      show some (Sum.inr (acc, mk M N S)) = some (Sum.inr (acc + 0, mk M N S))
      rw [Int32.add_zero]
    · rw [if_neg hz]
      have c0 : c ≠ 0 := fun q => hz (by rw [y1, q]; rfl)
      have hb := m_breaks (M := M) y3 hs hj hn
      generalize rnd j N S = y at y1 y2 y3 y4 hs hb
      have hp : ¬ y.1 ≤ 0 := by rw [y1]; exact nI_nle (by omega) (by omega)
      have st : l_X8_settles_15 n (nI j) acc y.1 (mk M y.2.1 y.2.2) = some (.inl (acc + y.1, (rnd j y.2.1 y.2.2).1, mk M (rnd j y.2.1 y.2.2).2.1 (rnd j y.2.1 y.2.2).2.2)) := by
        unfold l_X8_settles_15
        rw [if_neg hp, lt_eq, hb, ob_some]
        rfl
      have := ih y.2.1 y.2.2 (acc + y.1) m y3 hs (by rw [st_cnt y2]; omega) (by omega)
      refine (wl_st (f := fun t : Int32 × Int32 × RowS => l_X8_settles_15 n (nI j) t.1 t.2.1 t.2.2) (s := (acc, y.1, mk M y.2.1 y.2.2)) st).trans ?_
      rw [this, Int32.add_assoc]
theorem m_settle1 {M : RowS} {N : Nat → Int32} {S : Nat → Int64} (h : wfN N) (hS : wfS N S) {j : Nat} (hj : j < 2) {n : Nat} (hn : 60 < n) (acc : Int32) : l_X8_settles_4 n acc (nI j) (mk M N S) = some (.inl (acc + (sLeg j 13 N S).1, nI (j + 1), mk M (sLeg j 13 N S).2.1 (sLeg j 13 N S).2.2)) := by
  have hc := cnt_le h
  have hw := wh_le (N := N) (cnt N)
  unfold l_X8_settles_4
  rw [show (2 : Int32) = nI 2 from rfl, if_neg (by rw [nI_leI (by omega) (by omega)]; omega), m_breaks h hS hj hn, ob_some]
  simp only [lt]
  rw [m_setleg hj hn 13 N S acc n h hS (by omega) (by omega), ob_some]
  unfold b_X8_settles_32
  simp only [lt, nI_1]
theorem m_settle {M : RowS} {N : Nat → Int32} {S : Nat → Int64} (h : wfN N) (hS : wfS N S) {n : Nat} (hn : 60 < n) : f_X8_settles n (mk M N S) = some ((settleS N S).1, mk M (settleS N S).2.1 (settleS N S).2.2) := by
  have hc := cnt_le h
  have hw := wh_le (N := N) (cnt N)
  obtain ⟨c, y1, y2, y3, y4, y5, -⟩ := sLeg_facts (j := 0) (by decide) 13 N S h hS (by omega)
  have s0 := m_settle1 (M := M) h hS (j := 0) (by decide) hn 0
  have s1 := m_settle1 (M := M) y4 y5 (j := 1) (by decide) hn (0 + (sLeg 0 13 N S).1)
  have e : wloop (fun t : Int32 × Int32 × RowS => l_X8_settles_4 n t.1 t.2.1 t.2.2) n (0, 0, mk M N S) = some ((settleS N S).1, mk M (settleS N S).2.1 (settleS N S).2.2) := by
    obtain ⟨m, hm⟩ : ∃ m, n = m + 3 := ⟨n - 3, by omega⟩
    have : ∀ q, q = m + 3 → wloop (fun t : Int32 × Int32 × RowS => l_X8_settles_4 n t.1 t.2.1 t.2.2) q (0, 0, mk M N S) = some ((settleS N S).1, mk M (settleS N S).2.1 (settleS N S).2.2) := by
      intro q hq
      rw [hq]
      refine (wl_st (f := fun t : Int32 × Int32 × RowS => l_X8_settles_4 n t.1 t.2.1 t.2.2) (n := m + 2) (s := (0, nI 0, mk M N S)) s0).trans ?_
      refine (wl_st (f := fun t : Int32 × Int32 × RowS => l_X8_settles_4 n t.1 t.2.1 t.2.2) (n := m + 1) (s := (_, nI (0 + 1), _)) s1).trans ?_
      refine wl_en ?_
      show l_X8_settles_4 n _ (nI 2) _ = _
      unfold l_X8_settles_4
      rw [if_pos (by decide), Int32.zero_add]
      rfl
    exact this n hm
  unfold f_X8_settles
  rw [e]
  rfl
