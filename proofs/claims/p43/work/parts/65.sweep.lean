/-! OPERATIONS 4: sweep -/
noncomputable def sw (N : Nat → Int32) (S : Nat → Int64) (p : Nat) (val : Nat → Int32) : Nat → BS
  | 0 => (0, N, S)
  | k + 1 => ((sw N S p val k).1 + (settleS (va_up (sw N S p val k).2.1 (4 + p) (val (k + 1))) (sw N S p val k).2.2).1, (settleS (va_up (sw N S p val k).2.1 (4 + p) (val (k + 1))) (sw N S p val k).2.2).2)
theorem sw_0 {N : Nat → Int32} {S : Nat → Int64} {p : Nat} {val : Nat → Int32} : sw N S p val 0 = (0, N, S) := by rw [sw]
theorem sw_1 {N : Nat → Int32} {S : Nat → Int64} {p k : Nat} {val : Nat → Int32} : (sw N S p val (k + 1)).1 = (sw N S p val k).1 + (settleS (va_up (sw N S p val k).2.1 (4 + p) (val (k + 1))) (sw N S p val k).2.2).1 := by rw [sw]
theorem sw_2 {N : Nat → Int32} {S : Nat → Int64} {p k : Nat} {val : Nat → Int32} : (sw N S p val (k + 1)).2 = (settleS (va_up (sw N S p val k).2.1 (4 + p) (val (k + 1))) (sw N S p val k).2.2).2 := by rw [sw]
theorem tdiv_mid {d k c : Int} (hk : 0 ≤ k) (hkc : k ≤ c) (hc : 0 < c) : (0 ≤ d → 0 ≤ (d * k).tdiv c ∧ (d * k).tdiv c ≤ d) ∧ (d ≤ 0 → d ≤ (d * k).tdiv c ∧ (d * k).tdiv c ≤ 0) := by
  have key : ∀ e : Int, 0 ≤ e → 0 ≤ (e * k).tdiv c ∧ (e * k).tdiv c ≤ e := by
    intro e he
    have h0 : 0 ≤ e * k := Int.mul_nonneg he hk
    have h1 : e * k ≤ e * c := Int.mul_le_mul_of_nonneg_left hkc he
    rw [Int.tdiv_eq_ediv_of_nonneg h0]
    refine ⟨Int.ediv_nonneg h0 (by omega), ?_⟩
    have h2 : e * k / c < e + 1 := (Int.ediv_lt_iff_lt_mul hc).mpr (by rw [Int.add_mul, Int.one_mul]; omega)
    omega
  refine ⟨key d, fun hd => ?_⟩
  have h := key (-d) (by omega)
  rw [Int.neg_mul, Int.neg_tdiv] at h
  omega
theorem val_bd {f v s : Int32} {c k : Nat} (hf : bd f 0 99999) (hv : bd v 0 99999) (hs : s = nI c) (hk : 1 ≤ k) (hkc : k ≤ c) (hc : c ≤ 50) : bd (f + ((v - f) * nI k) / s) 0 99999 := by
  unfold bd at hf hv ⊢
  subst hs
  have d1 : (v - f).toInt = v.toInt - f.toInt := i32_sub (by omega)
  have d2 : (nI k).toInt = (k : Int) := nI_toInt (by omega)
  have d3 : (nI c).toInt = (c : Int) := nI_toInt (by omega)
  have hm := mul_bd (a := v.toInt - f.toInt) (b := (k : Int)) (A := 99999) (B := 50) (by omega) (by omega)
  have d4 : ((v - f) * nI k).toInt = (v.toInt - f.toInt) * k := by rw [i32_mul (by rw [d1, d2]; omega), d1, d2]
  have d5 : (((v - f) * nI k) / nI c).toInt = ((v.toInt - f.toInt) * k).tdiv c := by rw [i32_div (by rw [d4]; omega), d4, d3]
  have hd := tdiv_mid (d := v.toInt - f.toInt) (k := (k : Int)) (c := (c : Int)) (by omega) (by omega) (by omega)
  have hq : f.toInt + ((v.toInt - f.toInt) * k).tdiv c ≤ 99999 ∧ 0 ≤ f.toInt + ((v.toInt - f.toInt) * k).tdiv c := by
    rcases Int.le_total 0 (v.toInt - f.toInt) with q | q
    · have := hd.1 q; omega
    · have := hd.2 q; omega
  have d6 : (f + ((v - f) * nI k) / nI c).toInt = f.toInt + ((v.toInt - f.toInt) * k).tdiv c := by
    rw [i32_add (by rw [d5]; omega), d5]
  rw [d6]
  omega
theorem press_wf {N : Nat → Int32} (h : wfN N) {p : Nat} (hp : p < 8) {v : Int32} (hv : bd v 0 99999) : wfN (va_up N (4 + p) v) :=
  wf_cell h (by omega) (by omega) (fun q hq e => hv) (fun j hj => ⟨by omega, by omega, by omega⟩) (fun t ht => ⟨by omega, by omega, by omega, by omega, by omega, by omega, by omega⟩)
theorem press_rel {R : RowS} {N : Nat → Int32} {S : Nat → Int64} (h : wfN N) (r : Rel R N S) {p : Nat} (hp : p < 8) {v : Int32} : Rel (si R 1 p v) (va_up N (4 + p) v) S :=
  rel_cell h r (by omega) (fun k hk => by omega) (fun q hq => by omega) (fun j hj k hk => by omega) (fun t ht k hk => by omega)
section SWEEP
variable {P : RowsS} {G : GlbS} {M : RowS}
theorem c_sweep {N : Nat → Int32} {S : Nat → Int64} (g : Good (P 0) N S) {p c : Nat} (hp : p < 8) (hc : 1 ≤ c ∧ c ≤ 50) {f v : Int32} (hf : bd f 0 99999) (hv : bd v 0 99999) : ∃ P', wloop (fun t : Int32 × Int32 × RowsS => l_X7_sweep_46 200 (nI p) v (nI c) f t.1 t.2.1 t.2.2) 200 (0, 1, P) = some ((sw N S p (fun k => f + ((v - f) * nI k) / nI c) c).1, P') ∧ Good (P' 0) (sw N S p (fun k => f + ((v - f) * nI k) / nI c) c).2.1 (sw N S p (fun k => f + ((v - f) * nI k) / nI c) c).2.2 ∧ (∀ r, r ≠ 0 → P' r = P r) ∧ ∀ k, k < c → wfN (sw N S p (fun k => f + ((v - f) * nI k) / nI c) k).2.1 ∧ wfS (sw N S p (fun k => f + ((v - f) * nI k) / nI c) k).2.1 (sw N S p (fun k => f + ((v - f) * nI k) / nI c) k).2.2 := by
  obtain ⟨val, hval⟩ : ∃ val : Nat → Int32, val = fun k => f + ((v - f) * nI k) / nI c := ⟨_, rfl⟩
  rw [← hval]
  have hb : ∀ k, 1 ≤ k → k ≤ c → bd (val k) 0 99999 := fun k h1 h2 => by rw [hval]; exact val_bd hf hv rfl h1 h2 hc.2
  have hex : ∃ w : Nat → BS, (∀ k, sw N S p val k = w k) ∧ w 0 = (0, N, S) ∧ (∀ k, (w (k + 1)).1 = (w k).1 + (settleS (va_up (w k).2.1 (4 + p) (val (k + 1))) (w k).2.2).1) ∧ ∀ k, (w (k + 1)).2 = (settleS (va_up (w k).2.1 (4 + p) (val (k + 1))) (w k).2.2).2 := ⟨sw N S p val, fun _ => rfl, sw_0, fun _ => sw_1, fun _ => sw_2⟩
  obtain ⟨w, hw, w0, w1, w2⟩ := hex
  simp only [hw]
  clear hw
  have key := wl_rel (f := fun t : Int32 × Int32 × RowsS => l_X7_sweep_46 200 (nI p) v (nI c) f t.1 t.2.1 t.2.2) (fun i s => s.1 = (w i).1 ∧ s.2.1 = nI (i + 1) ∧ Good (s.2.2 0) (w i).2.1 (w i).2.2 ∧ (∀ r, r ≠ 0 → s.2.2 r = P r) ∧ ∀ k, k < i → wfN (w k).2.1 ∧ wfS (w k).2.1 (w k).2.2) (fun q => q.1 = (w c).1 ∧ Good (q.2 0) (w c).2.1 (w c).2.2 ∧ (∀ r, r ≠ 0 → q.2 r = P r) ∧ ∀ k, k < c → wfN (w k).2.1 ∧ wfS (w k).2.1 (w k).2.2) c (fun i s hi hs => by
    obtain ⟨z, k, Pz⟩ := s
    obtain ⟨g1, g2, g3, g4, g5⟩ := hs
    simp only at g1 g2 g3 g4 g5
    subst g1 g2
    have wf1 := press_wf g3.1 hp (hb (i + 1) (by omega) (by omega))
    have ws := wfS_cell (v := val (i + 1)) g3.2.1 (i := 4 + p) (by omega)
    obtain ⟨R2, s1, s2⟩ := settle_good wf1 ws g3.2.2.1 (press_rel g3.1 g3.2.2.2.2.1 hp)
    refine ⟨((w (i + 1)).1, nI (i + 1 + 1), va_up Pz 0 R2), ?_, rfl, rfl, ?_, fun r hr => ?_, fun k hk => ?_⟩
    · show l_X7_sweep_46 200 (nI p) v (nI c) f (w i).1 (nI (i + 1)) Pz = _
      unfold l_X7_sweep_46
      rw [if_neg (by rw [nI_ltI (by omega) (by omega)]; omega), if_pos (nI_ne0 (by omega) (by omega))]
      have ev : f + ((v - f) * nI (i + 1)) / nI c = val (i + 1) := by rw [hval]
      simp only [lt, ev, c_presses hp, va_up_self, s1, ob_some, up_up, nI_1, w1]
    · show Good (va_up Pz 0 R2 0) (w (i + 1)).2.1 (w (i + 1)).2.2
      rw [va_up_self, w2]; exact s2
    · show va_up Pz 0 R2 r = _
      rw [va_up_ne _ _ hr]; exact g4 r hr
    · by_cases q : k = i
      · subst q; exact ⟨g3.1, g3.2.1⟩
      · exact g5 k (by omega)) (fun s hs => by
    obtain ⟨z, k, Pz⟩ := s
    obtain ⟨g1, g2, g3, g4, g5⟩ := hs
    simp only at g1 g2 g3 g4 g5
    subst g1 g2
    refine ⟨(_, Pz), ?_, rfl, g3, g4, g5⟩
    show l_X7_sweep_46 200 (nI p) v (nI c) f (w c).1 (nI (c + 1)) Pz = _
    unfold l_X7_sweep_46
    rw [if_pos (by rw [nI_ltI (by omega) (by omega)]; omega)]) c 0 200 (0, 1, P) (by omega) (by omega) ⟨by rw [w0], rfl, by rw [w0]; exact g, fun _ _ => rfl, fun k hk => by omega⟩
  obtain ⟨⟨q1, P'⟩, a1, a2, a3, a4, a5⟩ := key
  simp only at a2
  subst a2
  exact ⟨P', a1, a3, a4, a5⟩
end SWEEP

