/-! SETTLE: one round of a leg, a leg, both -/
abbrev BS : Type := Int32 × (Nat → Int32) × (Nat → Int64)
def bstep (j : Nat) (L : Int64) (t : Nat) (x : BS) : BS :=
  if tg x.2.1 t 0 = nI j then
    if tg x.2.1 t 6 = 0 then
      if 0 ≤ runS x.2.1 t L then
        if runS x.2.1 t L ≤ (fullS x.2.1 t).toInt64 then x
        else (x.1 + 1, va_up x.2.1 (18 + 7 * t + 6) 2, va_up (va_up x.2.2 j (x.2.2 j - fvol x.2.1 t)) (2 + j) (x.2.2 (2 + j) + fvol x.2.1 t))
      else (x.1 + 1, va_up x.2.1 (18 + 7 * t + 6) 1, x.2.2)
    else x
  else x
def brun (j : Nat) (L : Int64) : Nat → BS → BS
  | 0, x => x
  | n + 1, x => bstep j L n (brun j L n x)
def wh (N : Nat → Int32) : Nat → Nat
  | 0 => 0
  | n + 1 => wh N n + (if tg N n 6 = 0 then 1 else 0)
/-- the same but for the states of tubes -/
def StEq (N N' : Nat → Int32) : Prop := ∀ k, (∀ t, t < 12 → k ≠ 18 + 7 * t + 6) → N' k = N k
theorem st_rf {N : Nat → Int32} : StEq N N := fun _ _ => rfl
theorem st_tr {N N' N2 : Nat → Int32} (a : StEq N N') (b : StEq N' N2) : StEq N N2 := fun k hk => (b k hk).trans (a k hk)
theorem st_up {N : Nat → Int32} {t : Nat} {v : Int32} (ht : t < 12) : StEq N (va_up N (18 + 7 * t + 6) v) := fun _ hk => va_up_ne _ _ (hk t ht)
section ST
variable {N N' : Nat → Int32} {S S' : Nat → Int64} {t : Nat}
theorem st_cnt (e : StEq N N') : cnt N' = cnt N := by
  unfold cnt
  rw [e 2 (fun t _ => by omega)]
theorem st_tg (e : StEq N N') {k : Nat} (hk : k < 6) : tg N' t k = tg N t k := e _ (fun u _ => by omega)
theorem st_lg (e : StEq N N') {j k : Nat} (hj : j < 2) (hk : k < 3) : lg N' j k = lg N j k := e _ (fun u _ => by omega)
theorem st_lgOf (e : StEq N N') : lgOf N' t = lgOf N t := by
  unfold lgOf
  rw [st_tg e (by decide)]
theorem st_ptOf (e : StEq N N') : ptOf N' t = ptOf N t := by
  unfold ptOf
  rw [st_tg e (by decide)]
theorem st_pull (e : StEq N N') (h : wfN N) (ht : t < cnt N) : pullS N' t = pullS N t := by
  have := ptOf_lt h ht
  unfold pullS
  rw [st_ptOf e, st_lgOf e, st_lg e (lgOf_lt h ht) (by decide), e 1 (fun u _ => by omega), e (4 + ptOf N t) (fun u _ => by omega)]
theorem st_men (e : StEq N N') (h : wfN N) (ht : t < cnt N) : menS N' t = menS N t := by
  unfold menS
  rw [st_lgOf e, st_lg e (lgOf_lt h ht) (by decide), st_tg e (by decide)]
theorem st_run (e : StEq N N') (h : wfN N) (ht : t < cnt N) (L : Int64) : runS N' t L = runS N t L := by
  unfold runS
  rw [st_pull e h ht, st_men e h ht, st_tg e (by decide)]
theorem st_full (e : StEq N N') : fullS N' t = fullS N t := by
  unfold fullS
  rw [st_tg e (by decide)]
theorem st_fvol (e : StEq N N') : fvol N' t = fvol N t := by
  unfold fvol
  rw [st_full e, st_tg e (by decide)]
theorem st_runZ (e : StEq N N') (h : wfN N) (ht : t < cnt N) (x : Int) : runZ N' t x = runZ N t x := by
  unfold runZ
  rw [st_pull e h ht, st_men e h ht, st_tg e (by decide)]
theorem st_lowL (e : StEq N N') {j : Nat} (hj : j < 2) : lowL N' j = lowL N j := by
  unfold lowL
  rw [st_lg e hj (by decide)]
theorem st_wf (e : StEq N N') (h : wfN N) (hs : ∀ t, t < cnt N → bd (tg N' t 6) 0 2) : wfN N' := by
  obtain ⟨h1, h2, h3, h4, h5, h6⟩ := h
  refine ⟨?_, ?_, ?_, fun p hp => ?_, fun j hj => ?_, fun t ht => ?_⟩
  · rw [e 0 (fun u _ => by omega)]; exact h1
  · rw [e 1 (fun u _ => by omega)]; exact h2
  · rw [e 2 (fun u _ => by omega)]; exact h3
  · rw [e (4 + p) (fun u _ => by omega)]; exact h4 p hp
  · rw [st_lg e hj (by decide), st_lg e hj (by decide), st_lg e hj (by decide)]; exact h5 j hj
  · rw [st_cnt e] at ht
    have g := h6 t ht
    rw [st_tg e (by decide), st_tg e (by decide), st_tg e (by decide), st_tg e (by decide), st_tg e (by decide), st_tg e (by decide), e 0 (fun u _ => by omega)]
    exact ⟨g.1, g.2.1, g.2.2.1, g.2.2.2.1, g.2.2.2.2.1, g.2.2.2.2.2.1, g.2.2.2.2.2.2.1, hs t ht⟩
theorem st_colZ (e : StEq N N') (h : wfN N) (ht : t < cnt N) (h6 : tg N' t 6 = tg N t 6) (x : Int) : colZ N' t x = colZ N t x := by
  unfold colZ
  rw [h6, st_runZ e h ht, st_full e]
theorem st_volZ (e : StEq N N') (h : wfN N) {j : Nat} (h6 : ∀ u, u < cnt N → lgOf N u = j → tg N' u 6 = tg N u 6) (x : Int) : ∀ n, n ≤ cnt N → volZ N' j x n = volZ N j x n := by
  intro n
  induction n with
  | zero => intro _; rfl
  | succ n ih =>
    intro hn
    simp only [volZ]
    rw [ih (by omega), st_lgOf e]
    by_cases hc : lgOf N n = j
    · rw [if_pos hc, if_pos hc, st_colZ e h (by omega) (h6 n (by omega) hc)]
      unfold b2
      rw [st_tg e (by decide)]
    · rw [if_neg hc, if_neg hc]
theorem st_lev (e : StEq N N') (h : wfN N) (h' : wfN N') (hS : wfS N S) (hS' : wfS N' S') {j : Nat} (hj : j < 2) (h6 : ∀ u, u < cnt N → lgOf N u = j → tg N' u 6 = tg N u 6) (hs : S' j = S j) : levS N' S' j = levS N S j := by
  have h1 := lev_is h' hS' hj
  refine lev_eq h hS hj ?_
  unfold IsLev at h1 ⊢
  rw [st_cnt e, st_volZ e h h6 _ _ (Nat.le_refl _), st_volZ e h h6 _ _ (Nat.le_refl _), st_lg e hj (by decide), hs] at h1
  exact h1
theorem tg_up (u : Nat) (v : Int32) : tg (va_up N (18 + 7 * t + 6) v) u 6 = if u = t then v else tg N u 6 := by
  unfold tg va_up
  by_cases hc : u = t
  · rw [if_pos (by omega), if_pos hc]
  · rw [if_neg (by omega), if_neg hc]
theorem wh_ge (v : Int32) : ∀ n, n ≤ t → wh (va_up N (18 + 7 * t + 6) v) n = wh N n := by
  intro n
  induction n with
  | zero => intro _; rfl
  | succ n ih =>
    intro hn
    simp only [wh]
    rw [ih (by omega), tg_up, if_neg (show ¬ n = t by omega)]
theorem wh_up {v : Int32} (h6 : tg N t 6 = 0) (hv : ¬ v = 0) : ∀ n, t < n → wh (va_up N (18 + 7 * t + 6) v) n + 1 = wh N n := by
  intro n
  induction n with
  | zero => intro h; omega
  | succ n ih =>
    intro hn
    simp only [wh]
    by_cases hc : n = t
    · subst hc
      rw [wh_ge v n (Nat.le_refl _), tg_up, if_pos rfl, if_neg hv, if_pos h6]
    · have := ih (by omega)
      rw [tg_up, if_neg hc]
      omega
theorem wh_le : ∀ n, wh N n ≤ n := by
  intro n
  induction n with
  | zero => exact Nat.le_refl _
  | succ n ih => simp only [wh]; split <;> omega
end ST
/-- what one round does, told at once -/
def BrF (N : Nat → Int32) (S : Nat → Int64) (j : Nat) (L : Int64) (n : Nat) (y : BS) : Prop :=
  ∃ c : Nat, y.1 = nI c ∧ StEq N y.2.1 ∧ wfN y.2.1 ∧ wh y.2.1 (cnt N) + c = wh N (cnt N) ∧
  (∀ k, k ≠ j → k ≠ 2 + j → y.2.2 k = S k) ∧
  (S j).toInt - 80000000 * c ≤ (y.2.2 j).toInt ∧ (y.2.2 j).toInt ≤ (S j).toInt ∧
  (y.2.2 j = S j ∨ ∃ u, u < cnt N ∧ lgOf N u = j ∧ 0 < (runS N u L).toInt) ∧
  (c = 0 → y = (0, N, S) ∧ ∀ u, u < n → lgOf N u = j → tg N u 6 = 0 → 0 ≤ runS N u L ∧ runS N u L ≤ (fullS N u).toInt64) ∧
  (∀ u, lgOf N u ≠ j → tg y.2.1 u 6 = tg N u 6) ∧
  (∀ u, n ≤ u → tg y.2.1 u 6 = tg N u 6)
theorem brun_facts {N : Nat → Int32} {S : Nat → Int64} (h : wfN N) (hS : wfS N S) {j : Nat} (hj : j < 2) (L : Int64) : ∀ n, n ≤ cnt N → BrF N S j L n (brun j L n (0, N, S)) := by
  have hc := cnt_le h
  have hb := S_bd h hS hj
  intro n
  induction n with
  | zero =>
    intro _
    exact ⟨0, rfl, st_rf, h, rfl, fun _ _ _ => rfl, by show _ ≤ (S j).toInt; omega, Int.le_refl _, Or.inl rfl, fun _ => ⟨rfl, fun u hu => by omega⟩, fun _ _ => rfl, fun _ _ => rfl⟩
  | succ n ih =>
    intro hn
    obtain ⟨c, y1, y2, y3, y4, y5, y6, y7, y8, y9, y10, y11⟩ := ih (by omega)
    have hw := wh_le (N := N) (cnt N)
    show BrF N S j L (n + 1) (bstep j L n (brun j L n (0, N, S)))
    generalize brun j L n (0, N, S) = y at y1 y2 y3 y4 y5 y6 y7 y8 y9 y10 y11
    have t6 := y11 n (Nat.le_refl _)
    have t0 : tg y.2.1 n 0 = tg N n 0 := st_tg y2 (by decide)
    have hl := tg0_iff h (t := n) (by omega) hj
    have hr := st_run y2 h (t := n) (by omega) L
    have hf : fullS y.2.1 n = fullS N n := st_full y2
    have hv : fvol y.2.1 n = fvol N n := st_fvol y2
    have hfv := fvol_int h (t := n) (by omega)
    have hfi := full_int h (t := n) (by omega)
    unfold bstep
    rw [t0, t6, hr, hf, hv]
    by_cases c1 : tg N n 0 = nI j
    · rw [if_pos c1]
      have c1' := hl.mp c1
      by_cases c2 : tg N n 6 = 0
      · rw [if_pos c2]
        have chg : ∀ (v : Int32) (S2 : Nat → Int64), bd v 1 2 → (∀ k, k ≠ j → k ≠ 2 + j → S2 k = S k) → (S j).toInt - 80000000 * (c + 1 : Nat) ≤ (S2 j).toInt → (S2 j).toInt ≤ (S j).toInt → (S2 j = S j ∨ ∃ u, u < cnt N ∧ lgOf N u = j ∧ 0 < (runS N u L).toInt) → BrF N S j L (n + 1) (y.1 + 1, va_up y.2.1 (18 + 7 * n + 6) v, S2) := by
          intro v S2 g1 g2 g3 g4 g5
          have hv0 : ¬ v = 0 := fun q => by rw [q] at g1; exact absurd g1.1 (by decide)
          have hu := wh_up (N := y.2.1) (t := n) (v := v) (by rw [t6]; exact c2) hv0 (cnt N) (by omega)
          have hst : StEq N (va_up y.2.1 (18 + 7 * n + 6) v) := st_tr y2 (st_up (by omega))
          refine ⟨c + 1, by rw [y1]; exact nI_1 c, hst, ?_, by show wh (va_up y.2.1 (18 + 7 * n + 6) v) (cnt N) + (c + 1) = _; omega, g2, g3, g4, g5, fun q => by omega, fun u hu => ?_, fun u hu => ?_⟩
          · refine st_wf hst h (fun u hu => ?_)
            rw [tg_up]
            by_cases q : u = n
            · rw [if_pos q]
              unfold bd at g1 ⊢; omega
            · rw [if_neg q]
              exact (y3.2.2.2.2.2 u (by rw [st_cnt y2]; exact hu)).2.2.2.2.2.2.2
          · show tg (va_up y.2.1 (18 + 7 * n + 6) v) u 6 = _
            rw [tg_up, if_neg (fun q => hu (by rw [q]; exact c1'))]
            exact y10 u hu
          · show tg (va_up y.2.1 (18 + 7 * n + 6) v) u 6 = _
            rw [tg_up, if_neg (by omega)]
            exact y11 u (by omega)
        by_cases c3 : 0 ≤ runS N n L
        · rw [if_pos c3]
          by_cases c4 : runS N n L ≤ (fullS N n).toInt64
          · rw [if_pos c4]
            refine ⟨c, y1, y2, y3, y4, y5, y6, y7, y8, fun q => ⟨(y9 q).1, fun u hu g1 g2 => ?_⟩, y10, fun u hu => y11 u (by omega)⟩
            by_cases q2 : u = n
            · rw [q2]; exact ⟨c3, c4⟩
            · exact (y9 q).2 u (by omega) g1 g2
          · rw [if_neg c4]
            rw [i64_le, i32_ext] at c4
            have es : (va_up (va_up y.2.2 j (y.2.2 j - fvol N n)) (2 + j) (y.2.2 (2 + j) + fvol N n)) j = y.2.2 j - fvol N n := by
              rw [va_up_ne _ _ (by omega), va_up_self]
            have ei : (y.2.2 j - fvol N n).toInt = (y.2.2 j).toInt - (fvol N n).toInt := i64_sub (by omega)
            refine chg 2 _ (by unfold bd; decide) (fun k q1 q2 => ?_) (by rw [es, ei]; omega) (by rw [es, ei]; omega) (Or.inr ⟨n, by omega, c1', by omega⟩)
            rw [va_up_ne _ _ q2, va_up_ne _ _ q1]
            exact y5 k q1 q2
        · rw [if_neg c3]
          exact chg 1 _ (by unfold bd; decide) y5 (by omega) y7 y8
      · rw [if_neg c2]
        refine ⟨c, y1, y2, y3, y4, y5, y6, y7, y8, fun q => ⟨(y9 q).1, fun u hu g1 g2 => ?_⟩, y10, fun u hu => y11 u (by omega)⟩
        by_cases q2 : u = n
        · rw [q2] at g2; exact absurd g2 c2
        · exact (y9 q).2 u (by omega) g1 g2
    · rw [if_neg c1]
      refine ⟨c, y1, y2, y3, y4, y5, y6, y7, y8, fun q => ⟨(y9 q).1, fun u hu g1 g2 => ?_⟩, y10, fun u hu => y11 u (by omega)⟩
      by_cases q2 : u = n
      · rw [q2] at g1; exact absurd (hl.mpr g1) c1
      · exact (y9 q).2 u (by omega) g1 g2

