/-! SETTLE, the class -/
section SISL
variable {R : RowS} {c k c2 k2 : Nat}
theorem si_at {v : Int32} : (si R c k v).1 c k = v := by unfold si; simp only [va_up_self]
theorem si_ne {v : Int32} (h : c2 ≠ c ∨ k2 ≠ k) : (si R c k v).1 c2 k2 = R.1 c2 k2 := by
  unfold si
  simp only [va_up]
  by_cases h1 : c2 = c
  · subst h1
    rw [if_pos rfl]; exact va_up_ne _ _ (by rcases h with q | q; exact absurd rfl q; exact q)
  · rw [if_neg h1]
theorem si_2 {v : Int32} : (si R c k v).2 = R.2 := rfl
theorem sl_1 {v : Int64} : (sl R c k v).1 = R.1 := rfl
theorem sl_at {v : Int64} : (sl R c k v).2 c k = v := by unfold sl; simp only [va_up_self]
theorem sl_ne {v : Int64} (h : c2 ≠ c ∨ k2 ≠ k) : (sl R c k v).2 c2 k2 = R.2 c2 k2 := by
  unfold sl
  simp only [va_up]
  by_cases h1 : c2 = c
  · subst h1
    rw [if_pos rfl]; exact va_up_ne _ _ (by rcases h with q | q; exact absurd rfl q; exact q)
  · rw [if_neg h1]
end SISL
section RELS
variable {R : RowS} {N : Nat → Int32} {S : Nat → Int64} {t j : Nat}
theorem rel_si {v : Int32} (r : Rel R N S) (ht : t < 12) : Rel (si R (t + 5) 6 v) (va_up N (18 + 7 * t + 6) v) S := by
  obtain ⟨r1, r2, r3, r4, r5, r6⟩ := r
  have e := st_up (N := N) (t := t) (v := v) ht
  refine ⟨?_, ?_, ?_, fun p hp => ?_, fun i hi => ?_, fun u hu k hk => ?_⟩
  · rw [si_ne (Or.inl (by omega)), r1, e 0 (fun u _ => by omega)]
  · rw [si_ne (Or.inl (by omega)), r2, e 1 (fun u _ => by omega)]
  · rw [si_ne (Or.inl (by omega)), r3, e 2 (fun u _ => by omega)]
  · rw [si_ne (Or.inl (by omega)), r4 p hp, e (4 + p) (fun u _ => by omega)]
  · rw [si_2, si_ne (Or.inr (by decide)), si_ne (Or.inr (by decide)), si_ne (Or.inr (by decide)), st_lg e hi (by decide), st_lg e hi (by decide), st_lg e hi (by decide)]
    exact r5 i hi
  · rw [st_cnt e] at hu
    by_cases hk6 : k = 6
    · subst hk6
      rw [tg_up]
      by_cases q : u = t
      · subst q; rw [if_pos rfl, si_at]
      · rw [if_neg q, si_ne (Or.inl (by omega))]; exact r6 u hu 6 hk
    · rw [st_tg e (by omega), si_ne (Or.inr hk6)]
      exact r6 u hu k hk
theorem rel_sl3 {v : Int64} (r : Rel R N S) (hj : j < 2) : Rel (sl R (j + 2) 3 v) N (va_up S j v) := by
  obtain ⟨r1, r2, r3, r4, r5, r6⟩ := r
  refine ⟨r1, r2, r3, r4, fun i hi => ?_, r6⟩
  obtain ⟨a1, a2, a3, a4, a5, a6⟩ := r5 i hi
  refine ⟨a1, a2, a3, ?_, ?_, ?_⟩
  · by_cases q : i = j
    · subst q; rw [sl_at, va_up_self]
    · rw [sl_ne (Or.inl (by omega)), va_up_ne _ _ q]; exact a4
  · rw [sl_ne (Or.inr (by decide)), va_up_ne _ _ (by omega)]; exact a5
  · rw [sl_ne (Or.inr (by decide)), va_up_ne _ _ (by omega)]; exact a6
theorem rel_sl4 {v : Int64} (r : Rel R N S) (hj : j < 2) : Rel (sl R (j + 2) 4 v) N (va_up S (2 + j) v) := by
  obtain ⟨r1, r2, r3, r4, r5, r6⟩ := r
  refine ⟨r1, r2, r3, r4, fun i hi => ?_, r6⟩
  obtain ⟨a1, a2, a3, a4, a5, a6⟩ := r5 i hi
  refine ⟨a1, a2, a3, ?_, ?_, ?_⟩
  · rw [sl_ne (Or.inr (by decide)), va_up_ne _ _ (by omega)]; exact a4
  · by_cases q : i = j
    · subst q; rw [sl_at, va_up_self]
    · rw [sl_ne (Or.inl (by omega)), va_up_ne _ _ (by omega)]; exact a5
  · rw [sl_ne (Or.inr (by decide)), va_up_ne _ _ (by omega)]; exact a6
theorem rel_sl5 {v : Int64} (r : Rel R N S) (hj : j < 2) : Rel (sl R (j + 2) 5 v) N (va_up S (4 + j) v) := by
  obtain ⟨r1, r2, r3, r4, r5, r6⟩ := r
  refine ⟨r1, r2, r3, r4, fun i hi => ?_, r6⟩
  obtain ⟨a1, a2, a3, a4, a5, a6⟩ := r5 i hi
  refine ⟨a1, a2, a3, ?_, ?_, ?_⟩
  · rw [sl_ne (Or.inr (by decide)), va_up_ne _ _ (by omega)]; exact a4
  · rw [sl_ne (Or.inr (by decide)), va_up_ne _ _ (by omega)]; exact a5
  · by_cases q : i = j
    · subst q; rw [sl_at, va_up_self]
    · rw [sl_ne (Or.inl (by omega)), va_up_ne _ _ (by omega)]; exact a6
theorem rel_sl6 {v : Int64} (r : Rel R N S) : Rel (sl R (j + 2) 6 v) N S := by
  obtain ⟨r1, r2, r3, r4, r5, r6⟩ := r
  refine ⟨r1, r2, r3, r4, fun i hi => ?_, r6⟩
  rw [sl_ne (Or.inr (by decide)), sl_ne (Or.inr (by decide)), sl_ne (Or.inr (by decide))]
  exact r5 i hi
theorem rel_hi {v : Int32} {k : Nat} (r : Rel R N S) (hk : 7 ≤ k) : Rel (si R (t + 5) k v) N S := by
  obtain ⟨r1, r2, r3, r4, r5, r6⟩ := r
  refine ⟨?_, ?_, ?_, fun p hp => ?_, fun i hi => ?_, fun u hu m hm => ?_⟩
  · rw [si_ne (Or.inl (by omega))]; exact r1
  · rw [si_ne (Or.inl (by omega))]; exact r2
  · rw [si_ne (Or.inl (by omega))]; exact r3
  · rw [si_ne (Or.inl (by omega))]; exact r4 p hp
  · rw [si_2, si_ne (Or.inr (by omega)), si_ne (Or.inr (by omega)), si_ne (Or.inr (by omega))]; exact r5 i hi
  · rw [si_ne (Or.inr (by omega))]; exact r6 u hu m hm
theorem cach_si {v : Int32} (h : wfN N) (q : Cach R N) (ht : t < 12) : Cach (si R (t + 5) 6 v) (va_up N (18 + 7 * t + 6) v) := by
  have e := st_up (N := N) (t := t) (v := v) ht
  intro u hu
  rw [st_cnt e] at hu
  rw [si_ne (Or.inr (by decide)), si_ne (Or.inr (by decide)), st_pull e h hu, st_men e h hu]
  exact q u hu
end RELS
theorem c_bstep {R : RowS} {N : Nat → Int32} {S : Nat → Int64} (h : wfN N) (r : Rel R N S) (q : Cach R N) {j : Nat} (hj : j < 2) {i : Nat} (hi : i < cnt N) (z : Int32) {L : Int64} (hL : R.2 (j + 2) 6 = L) : ∃ R', l_X3_breakTubes_11 (nI j) j z (nI i) R = some (.inl ((bstep j L i (z, N, S)).1, nI (i + 1), R')) ∧ Rel R' (bstep j L i (z, N, S)).2.1 (bstep j L i (z, N, S)).2.2 ∧ Cach R' (bstep j L i (z, N, S)).2.1 ∧ ∀ c, R'.2 c 6 = R.2 c 6 := by
  have hc := cnt_le h
  have f6 := r.2.2.2.2.2 i hi 6 (by decide)
  have f0 := r.2.2.2.2.2 i hi 0 (by decide)
  unfold l_X3_breakTubes_11
  rw [r.2.2.1, n2 h, if_neg (by rw [nI_leI (by omega) (by omega)]; omega), c_tubeAt (show i < 12 by omega)]
  simp only [lt, f0, f6, hL, c_run h r q hi, c_full r hi]
  by_cases c1 : tg N i 0 = nI j
  · by_cases c2 : tg N i 6 = 0
    · by_cases c3 : 0 ≤ runS N i L
      · by_cases c4 : runS N i L ≤ (fullS N i).toInt64
        · have hb : bstep j L i (z, N, S) = (z, N, S) := by unfold bstep; simp only [if_pos c1, if_pos c2, if_pos c3, if_pos c4]
          rw [hb]
          simp only [if_pos c1, if_pos c2, if_pos c3, if_pos c4, b_X3_breakTubes_124, lt, nI_1]
          exact ⟨R, rfl, r, q, fun _ => rfl⟩
        · have hb : bstep j L i (z, N, S) = (z + 1, va_up N (18 + 7 * i + 6) 2, va_up (va_up S j (S j - fvol N i)) (2 + j) (S (2 + j) + fvol N i)) := by unfold bstep; simp only [if_pos c1, if_pos c2, if_pos c3, if_neg c4]
          rw [hb]
          simp only [if_pos c1, if_pos c2, if_pos c3, if_neg c4, b_X3_breakTubes_124, lt, nI_1]
          have r1 := rel_si (v := 2) r (t := i) (by omega)
          have q1 := cach_si (v := 2) h q (t := i) (by omega)
          have hst := st_up (N := N) (t := i) (v := 2) (by omega)
          have v1 := c_fvol r1 (t := i) (by rw [st_cnt hst]; exact hi)
          rw [st_fvol hst] at v1
          have s1 : (si R (i + 5) 6 2).2 (j + 2) 3 = S j := (r1.2.2.2.2.1 j hj).2.2.2.1
          rw [v1, s1]
          have r2 := rel_sl3 (v := S j - fvol N i) r1 hj
          have v2 := c_fvol r2 (t := i) (by rw [st_cnt hst]; exact hi)
          rw [st_fvol hst] at v2
          have s2 : (sl (si R (i + 5) 6 2) (j + 2) 3 (S j - fvol N i)).2 (j + 2) 4 = S (2 + j) := by
            rw [(r2.2.2.2.2.1 j hj).2.2.2.2.1, va_up_ne _ _ (by omega)]
          rw [v2, s2]
          refine ⟨_, rfl, rel_sl4 r2 hj, q1, fun c => ?_⟩
          rw [sl_ne (Or.inr (by decide)), sl_ne (Or.inr (by decide)), si_2]
      · have hb : bstep j L i (z, N, S) = (z + 1, va_up N (18 + 7 * i + 6) 1, S) := by unfold bstep; simp only [if_pos c1, if_pos c2, if_neg c3]
        rw [hb]
        simp only [if_pos c1, if_pos c2, if_neg c3, b_X3_breakTubes_124, lt, nI_1]
        exact ⟨_, rfl, rel_si r (by omega), cach_si h q (by omega), fun _ => rfl⟩
    · have hb : bstep j L i (z, N, S) = (z, N, S) := by unfold bstep; simp only [if_pos c1, if_neg c2]
      rw [hb]
      simp only [if_pos c1, if_neg c2, b_X3_breakTubes_124, lt, nI_1]
      exact ⟨R, rfl, r, q, fun _ => rfl⟩
  · have hb : bstep j L i (z, N, S) = (z, N, S) := by unfold bstep; simp only [if_neg c1]
    rw [hb]
    simp only [if_neg c1, b_X3_breakTubes_124, lt, nI_1]
    exact ⟨R, rfl, r, q, fun _ => rfl⟩
theorem c_breaks {R : RowS} {N : Nat → Int32} {S : Nat → Int64} (h : wfN N) (hS : wfS N S) (r : Rel R N S) (q : Cach R N) {j : Nat} (hj : j < 2) (hL : R.2 (j + 2) 6 = levS N S j) {n : Nat} (hn : 60 < n) : ∃ R', f_X3_breakTubes n R (nI j) = some ((rnd j N S).1, R') ∧ Rel R' (rnd j N S).2.1 (rnd j N S).2.2 ∧ Cach R' (rnd j N S).2.1 ∧ ∀ c, R'.2 c 6 = R.2 c 6 := by
  have hc := cnt_le h
  have key := wl_rel (f := fun t : Int32 × Int32 × RowS => l_X3_breakTubes_11 (nI j) j t.1 t.2.1 t.2.2) (fun i s => s.1 = (brun j (levS N S j) i (0, N, S)).1 ∧ s.2.1 = nI i ∧ Rel s.2.2 (brun j (levS N S j) i (0, N, S)).2.1 (brun j (levS N S j) i (0, N, S)).2.2 ∧ Cach s.2.2 (brun j (levS N S j) i (0, N, S)).2.1 ∧ ∀ c, s.2.2.2 c 6 = R.2 c 6) (fun p => p.1 = (rnd j N S).1 ∧ Rel p.2 (rnd j N S).2.1 (rnd j N S).2.2 ∧ Cach p.2 (rnd j N S).2.1 ∧ ∀ c, p.2.2 c 6 = R.2 c 6) (cnt N) (fun i s hi hs => by
    obtain ⟨z, k, R'⟩ := s
    obtain ⟨g1, g2, g3, g4, g5⟩ := hs
    obtain ⟨c, y1, y2, y3, -⟩ := brun_facts h hS hj (levS N S j) i (by omega)
    simp only at g1 g2 g3 g4 g5
    obtain ⟨R2, a1, a2, a3, a4⟩ := c_bstep y3 g3 g4 hj (i := i) (by rw [st_cnt y2]; exact hi) z (L := levS N S j) (by rw [g5]; exact hL)
    have hz : ((z, (brun j (levS N S j) i (0, N, S)).2.1, (brun j (levS N S j) i (0, N, S)).2.2) : BS) = brun j (levS N S j) i (0, N, S) := by rw [g1]
    rw [hz] at a1 a2 a3
    refine ⟨_, by show l_X3_breakTubes_11 (nI j) j z k R' = _; rw [g2]; exact a1, rfl, rfl, a2, a3, fun c => (a4 c).trans (g5 c)⟩) (fun s hs => by
    obtain ⟨z, k, R'⟩ := s
    obtain ⟨g1, g2, g3, g4, g5⟩ := hs
    obtain ⟨c, y1, y2, y3, -⟩ := brun_facts h hS hj (levS N S j) (cnt N) (Nat.le_refl _)
    simp only at g1 g2 g3 g4 g5
    refine ⟨(z, R'), ?_, g1, g3, g4, g5⟩
    show l_X3_breakTubes_11 (nI j) j z k R' = _
    unfold l_X3_breakTubes_11
    rw [g3.2.2.1, n2 y3, st_cnt y2, g2, if_pos (by rw [nI_leI (by omega) (by omega)]; omega)]) (cnt N) 0 n (0, 0, R) (by omega) (by omega) ⟨rfl, rfl, r, q, fun _ => rfl⟩
  obtain ⟨⟨z, R'⟩, k1, k2, k3, k4, k5⟩ := key
  refine ⟨R', ?_, k3, k4, k5⟩
  unfold f_X3_breakTubes
  simp only [lt, c_legAt (R := R) hj]
  rw [k1]
  simp only at k2
  rw [k2]
  rfl

