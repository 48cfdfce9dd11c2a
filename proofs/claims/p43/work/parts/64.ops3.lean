/-! OPERATIONS 3: setMark, refill, sweep -/
/-- the same but for the marks of tubes -/
def MkEq (N N' : Nat → Int32) : Prop := ∀ k, (∀ t, t < 12 → k ≠ 18 + 7 * t + 5) → N' k = N k
section MK5
variable {N N' : Nat → Int32} {S : Nat → Int64} {t : Nat}
theorem mq_cnt (e : MkEq N N') : cnt N' = cnt N := by
  unfold cnt
  rw [e 2 (fun t _ => by omega)]
theorem mq_tg (e : MkEq N N') {k : Nat} (hk : k < 7) (h5 : k ≠ 5) : tg N' t k = tg N t k := e _ (fun u _ => by omega)
theorem mq_lg (e : MkEq N N') {j k : Nat} (hj : j < 2) (hk : k < 3) : lg N' j k = lg N j k := e _ (fun u _ => by omega)
theorem mq_lgOf (e : MkEq N N') : lgOf N' t = lgOf N t := by
  unfold lgOf
  rw [mq_tg e (by decide) (by decide)]
theorem mq_pull (e : MkEq N N') (h : wfN N) (ht : t < cnt N) : pullS N' t = pullS N t := by
  have := ptOf_lt h ht
  have ep : ptOf N' t = ptOf N t := by unfold ptOf; rw [mq_tg e (by decide) (by decide)]
  unfold pullS
  rw [ep, mq_lgOf e, mq_lg e (lgOf_lt h ht) (by decide), e 1 (fun u _ => by omega), e (4 + ptOf N t) (fun u _ => by omega)]
theorem mq_men (e : MkEq N N') (h : wfN N) (ht : t < cnt N) : menS N' t = menS N t := by
  unfold menS
  rw [mq_lgOf e, mq_lg e (lgOf_lt h ht) (by decide), mq_tg e (by decide) (by decide)]
theorem mq_run (e : MkEq N N') (h : wfN N) (ht : t < cnt N) (L : Int64) : runS N' t L = runS N t L := by
  unfold runS
  rw [mq_pull e h ht, mq_men e h ht, mq_tg e (by decide) (by decide)]
theorem mq_full (e : MkEq N N') : fullS N' t = fullS N t := by
  unfold fullS
  rw [mq_tg e (by decide) (by decide)]
theorem mq_col (e : MkEq N N') (h : wfN N) (ht : t < cnt N) (L : Int64) : colS N' t L = colS N t L := by
  unfold colS
  rw [mq_run e h ht, mq_full e, mq_tg e (by decide) (by decide)]
theorem mq_colZ (e : MkEq N N') (h : wfN N) (ht : t < cnt N) (x : Int) : colZ N' t x = colZ N t x := by
  unfold colZ runZ
  rw [mq_pull e h ht, mq_men e h ht, mq_full e, mq_tg e (by decide) (by decide), mq_tg e (by decide) (by decide)]
theorem mq_volZ (e : MkEq N N') (h : wfN N) (j : Nat) (x : Int) : ∀ n, n ≤ cnt N → volZ N' j x n = volZ N j x n := by
  intro n
  induction n with
  | zero => intro _; rfl
  | succ n ih =>
    intro hn
    simp only [volZ]
    rw [ih (by omega), mq_lgOf e, mq_colZ e h (by omega)]
    unfold b2
    rw [mq_tg e (by decide) (by decide)]
theorem mq_lev (e : MkEq N N') (h : wfN N) (h' : wfN N') (hS : wfS N S) (hS' : wfS N' S) {j : Nat} (hj : j < 2) : levS N' S j = levS N S j := by
  have h1 := lev_is h' hS' hj
  refine lev_eq h hS hj ?_
  unfold IsLev at h1 ⊢
  rw [mq_cnt e, mq_volZ e h _ _ _ (Nat.le_refl _), mq_volZ e h _ _ _ (Nat.le_refl _), mq_lg e hj (by decide)] at h1
  exact h1
end MK5
theorem mark_good {R : RowS} {N : Nat → Int32} {S : Nat → Int64} (g : Good R N S) {t : Nat} (ht : t < cnt N) {v : Int32} (hv : bd v (-9999) 9999) : Good (si R (t + 5) 5 v) (va_up N (18 + 7 * t + 5) v) S ∧ Quiet (va_up N (18 + 7 * t + 5) v) S := by
  have h := g.1
  have hc := cnt_le h
  have e : MkEq N (va_up N (18 + 7 * t + 5) v) := fun k hk => va_up_ne _ _ (hk t (by omega))
  have h' : wfN (va_up N (18 + 7 * t + 5) v) := wf_cell h (by omega) (fun e => by omega) (fun q hq e => by omega) (fun j hj => ⟨by omega, by omega, by omega⟩) (fun u hu => ⟨by omega, by omega, by omega, by omega, by omega, fun _ => hv, by omega⟩)
  have hS' : wfS (va_up N (18 + 7 * t + 5) v) S := wfS_cell g.2.1 (by omega)
  have hq : Quiet (va_up N (18 + 7 * t + 5) v) S := by
    intro j hj u hu h1 h2
    rw [mq_cnt e] at hu
    rw [mq_lgOf e] at h1
    rw [mq_tg e (by decide) (by decide)] at h2
    rw [mq_lev e h h' g.2.1 hS' hj, mq_run e h hu, mq_full e]
    exact g.2.2.2.1 j hj u hu h1 h2
  have r := g.2.2.2.2
  refine ⟨⟨h', hS', g.2.2.1, hq, rel_cell h r.1 (by omega) (fun k hk => by omega) (fun q hq => by omega) (fun j hj k hk => by omega) (fun t ht k hk => by omega), fun u hu => ?_, fun j hj => ?_, fun u hu => ?_⟩, hq⟩
  · rw [mq_cnt e] at hu
    rw [si_ne (Or.inr (by decide)), si_ne (Or.inr (by decide)), mq_pull e h hu, mq_men e h hu]
    exact r.2.1 u hu
  · rw [si_2, mq_lev e h h' g.2.1 hS' hj]
    exact r.2.2.1 j hj
  · rw [mq_cnt e] at hu
    rw [si_ne (Or.inr (by decide)), mq_lgOf e, mq_lev e h h' g.2.1 hS' (lgOf_lt h hu), mq_col e h hu]
    exact r.2.2.2 u hu

