/-! BEGINNING -/
def begN (a b : Int32) : Nat → Int32 := fun k => if k = 0 then a else if k = 1 then b else if 4 ≤ k ∧ k < 12 then 50000 else if k = 12 ∨ k = 15 then 1000 else if k = 13 ∨ k = 16 then 10000 else 0
theorem ext_up {α : Type} {f g : Nat → α} {i : Nat} {v : α} (h : ∀ k, k ≠ i → f k = g k) (hv : g i = v) : va_up f i v = g := by
  funext k
  by_cases q : k = i
  · subst q; rw [va_up_self, hv]
  · rw [va_up_ne _ _ q, h k q]
def zf {α : Type} (z : α) (f : Nat → α) (i : Nat) : Nat → α := fun k => if k < i then z else f k
theorem zf_0 {α : Type} {z : α} {f : Nat → α} : zf z f 0 = f := by funext k; unfold zf; rw [if_neg (by omega)]
theorem zf_s {α : Type} {z : α} {f : Nat → α} {i : Nat} : va_up (zf z f i) i z = zf z f (i + 1) := by
  refine ext_up (fun k hk => ?_) ?_
  · unfold zf
    by_cases q : k < i
    · rw [if_pos q, if_pos (by omega)]
    · rw [if_neg q, if_neg (by omega)]
  · unfold zf; rw [if_pos (by omega)]
def begP (a b : Int32) (i : Nat) : Nat → Int32 := fun k => if k = 0 then a else if k = 1 then b else if 4 ≤ k ∧ k < 4 + i then 50000 else 0
def begL (a b : Int32) (i : Nat) : Nat → Int32 := fun k => if k = 0 then a else if k = 1 then b else if 4 ≤ k ∧ k < 12 then 50000 else if k = 12 ∧ 0 < i then 1000 else if k = 13 ∧ 0 < i then 10000 else if k = 15 ∧ 1 < i then 1000 else if k = 16 ∧ 1 < i then 10000 else 0
theorem beg_cnt {a b : Int32} : cnt (begN a b) = 0 := rfl
theorem beg_wf {a b : Int32} (ha : bd a 2 8) (hb : bd b 0 99999) : wfN (begN a b) := by
  have e2 : begN a b 2 = 0 := rfl
  refine ⟨ha, hb, by rw [e2]; unfold bd; decide, fun p hp => ?_, fun j hj => ?_, fun t ht => ?_⟩
  · have : begN a b (4 + p) = 50000 := by
      unfold begN
      rw [if_neg (by omega), if_neg (by omega), if_pos (by omega)]
    rw [this]
    unfold bd
    decide
  · rcases (show j = 0 ∨ j = 1 by omega) with rfl | rfl
    · have e0 : lg (begN a b) 0 0 = 1000 := rfl
      have e1 : lg (begN a b) 0 1 = 10000 := rfl
      have e2 : lg (begN a b) 0 2 = 0 := rfl
      rw [e0, e1, e2]
      unfold bd
      decide
    · have e0 : lg (begN a b) 1 0 = 1000 := rfl
      have e1 : lg (begN a b) 1 1 = 10000 := rfl
      have e2 : lg (begN a b) 1 2 = 0 := rfl
      rw [e0, e1, e2]
      unfold bd
      decide
  · rw [beg_cnt] at ht; omega
theorem z_wfS {N : Nat → Int32} (h : wfN N) : wfS N (fun _ => 0) := by
  intro j hj
  have h1 := area_bd h hj
  have h2 := lowL_bd h hj
  have h3 : 0 ≤ (lg N j 1).toInt * lowL N j := Int.mul_nonneg (by omega) (by omega)
  have e : (0 : Int64).toInt = 0 := rfl
  show _ ≤ (0 : Int64).toInt ∧ (0 : Int64).toInt ≤ (0 : Int64).toInt ∧ 0 ≤ (0 : Int64).toInt ∧ (0 : Int64).toInt ≤ 2000000000
  rw [e]
  omega
theorem c_clear {R : RowS} {a b : Int32} {n : Nat} (hn : 8 < n) : ∃ R', f_X3_clear n R a b = some R' ∧ Rel R' (begN a b) (fun _ => 0) ∧ ∀ j, j < 2 → R'.2 (j + 2) 6 = 0 := by
  obtain ⟨R1, k1, k2, k3⟩ := wl_rel (f := fun t : Int32 × RowS => l_X3_clear_17 t.1 t.2) (fun i s => s.1 = nI i ∧ (s.2.1 0 0 = a ∧ s.2.1 0 1 = b ∧ s.2.1 0 2 = 0) ∧ ∀ p, p < i → s.2.1 1 p = 50000) (fun p => (p.1 0 0 = a ∧ p.1 0 1 = b ∧ p.1 0 2 = 0) ∧ ∀ q, q < 8 → p.1 1 q = 50000) 8 (fun i s hi hs => by
    obtain ⟨z, R1⟩ := s
    obtain ⟨g1, g2, g3⟩ := hs
    simp only at g1 g2 g3
    subst g1
    refine ⟨(nI (i + 1), si R1 1 i 50000), ?_, rfl, ?_, fun p hp => ?_⟩
    · show l_X3_clear_17 (nI i) R1 = _
      unfold l_X3_clear_17
      rw [show (8 : Int32) = nI 8 from rfl, if_neg (by rw [nI_leI (by omega) (by omega)]; omega), if_pos (by rw [nI_toInt (by omega)]; omega), nI_clamp (by omega)]
      simp only [lt, nI_1]
    · rw [si_ne (Or.inl (by decide)), si_ne (Or.inl (by decide)), si_ne (Or.inl (by decide))]
      exact g2
    · by_cases q : p = i
      · subst q; exact si_at
      · rw [si_ne (Or.inr q)]; exact g3 p (by omega)) (fun s hs => by
    obtain ⟨z, R1⟩ := s
    obtain ⟨g1, g2, g3⟩ := hs
    simp only at g1 g2 g3
    subst g1
    exact ⟨R1, rfl, g2, g3⟩) 8 0 n (0, si (si (si R 0 0 a) 0 1 b) 0 2 0) (by omega) (by omega) ⟨rfl, ⟨rfl, rfl, rfl⟩, fun p hp => by omega⟩
  refine ⟨stL (stL R1 (0 + 2) (f_X1_clear (R1.1 (0 + 2), R1.2 (0 + 2)))) (1 + 2) (f_X1_clear ((stL R1 (0 + 2) (f_X1_clear (R1.1 (0 + 2), R1.2 (0 + 2)))).1 (1 + 2), (stL R1 (0 + 2) (f_X1_clear (R1.1 (0 + 2), R1.2 (0 + 2)))).2 (1 + 2))), ?_, ⟨?_, ?_, ?_, fun p hp => ?_, fun j hj => ?_, fun t ht => ?_⟩, fun j hj => ?_⟩
  · unfold f_X3_clear
    simp only [lt]
    rw [k1, ob_some]
    rfl
  · rw [stL_1n (by decide), stL_1n (by decide)]; exact k2.1
  · rw [stL_1n (by decide), stL_1n (by decide)]; exact k2.2.1
  · rw [stL_1n (by decide), stL_1n (by decide)]; exact k2.2.2
  · have : begN a b (4 + p) = 50000 := by
      unfold begN
      rw [if_neg (by omega), if_neg (by omega), if_pos (by omega)]
    rw [stL_1n (by decide), stL_1n (by decide), this]; exact k3 p hp
  · rcases (show j = 0 ∨ j = 1 by omega) with rfl | rfl
    · exact ⟨rfl, rfl, rfl, rfl, rfl, rfl⟩
    · exact ⟨rfl, rfl, rfl, rfl, rfl, rfl⟩
  · rw [beg_cnt] at ht; omega
  · rcases (show j = 0 ∨ j = 1 by omega) with rfl | rfl
    · rfl
    · rfl
