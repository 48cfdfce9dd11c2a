/-! LAW: the law's body comes out true -/
theorem cs_sum {N : Nat → Int32} (h : wfN N) : ∀ i, i ≤ cnt N → ∃ a b c : Nat, cS N 0 i = nI a ∧ cS N 1 i = nI b ∧ cS N 2 i = nI c ∧ a + b + c = i := by
  intro i
  induction i with
  | zero => intro _; exact ⟨0, 0, 0, rfl, rfl, rfl, rfl⟩
  | succ i ih =>
    intro hi
    obtain ⟨a, b, c, h1, h2, h3, h4⟩ := ih (by omega)
    rcases st3 h (t := i) (by omega) with q | q | q
    · refine ⟨a + 1, b, c, ?_, ?_, ?_, by omega⟩
      · show cS N 0 i + (if tg N i 6 = 0 then 1 else 0) = _
        rw [h1, q, if_pos rfl, nI_1]
      · show cS N 1 i + (if tg N i 6 = 1 then 1 else 0) = _
        rw [h2, q, if_neg (by decide), Int32.add_zero]
      · show cS N 2 i + (if tg N i 6 = 2 then 1 else 0) = _
        rw [h3, q, if_neg (by decide), Int32.add_zero]
    · refine ⟨a, b + 1, c, ?_, ?_, ?_, by omega⟩
      · show cS N 0 i + (if tg N i 6 = 0 then 1 else 0) = _
        rw [h1, q, if_neg (by decide), Int32.add_zero]
      · show cS N 1 i + (if tg N i 6 = 1 then 1 else 0) = _
        rw [h2, q, if_pos rfl, nI_1]
      · show cS N 2 i + (if tg N i 6 = 2 then 1 else 0) = _
        rw [h3, q, if_neg (by decide), Int32.add_zero]
    · refine ⟨a, b, c + 1, ?_, ?_, ?_, by omega⟩
      · show cS N 0 i + (if tg N i 6 = 0 then 1 else 0) = _
        rw [h1, q, if_neg (by decide), Int32.add_zero]
      · show cS N 1 i + (if tg N i 6 = 1 then 1 else 0) = _
        rw [h2, q, if_neg (by decide), Int32.add_zero]
      · show cS N 2 i + (if tg N i 6 = 2 then 1 else 0) = _
        rw [h3, q, if_pos rfl, nI_1]
theorem ls_sum {N : Nat → Int32} (h : wfN N) : ∀ i, i ≤ cnt N → ∃ a b : Nat, lS N 0 i = nI a ∧ lS N 1 i = nI b ∧ a + b = i := by
  intro i
  induction i with
  | zero => intro _; exact ⟨0, 0, rfl, rfl, rfl⟩
  | succ i ih =>
    intro hi
    obtain ⟨a, b, h1, h2, h4⟩ := ih (by omega)
    have h6 := (h.2.2.2.2.2 i (by omega)).1
    unfold bd at h6
    have : (tg N i 0).toInt = 0 ∨ (tg N i 0).toInt = 1 := by omega
    rcases this with q | q
    · have q : tg N i 0 = 0 := i32_eq q
      refine ⟨a + 1, b, ?_, ?_, by omega⟩
      · show lS N 0 i + (if tg N i 0 = 0 then 1 else 0) = _
        rw [h1, q, if_pos rfl, nI_1]
      · show lS N 1 i + (if tg N i 0 = 1 then 1 else 0) = _
        rw [h2, q, if_neg (by decide), Int32.add_zero]
    · have q : tg N i 0 = 1 := i32_eq q
      refine ⟨a, b + 1, ?_, ?_, by omega⟩
      · show lS N 0 i + (if tg N i 0 = 0 then 1 else 0) = _
        rw [h1, q, if_neg (by decide), Int32.add_zero]
      · show lS N 1 i + (if tg N i 0 = 1 then 1 else 0) = _
        rw [h2, q, if_pos rfl, nI_1]
theorem b344_ok {P : RowsS} {G : GlbS} {pts n : Nat} {xs : List (List Nat)} {l : List Nat} (h2 : 2 ≤ pts) (h8 : pts ≤ 8) (V : Vc pts xs n) (hn : n ≤ 12) (hx : xs.length < 200) (hl : l = zl 0 ++ (spd (nI pts).toInt ++ (spd (50000 : Int32).toInt ++ ([59] ++ xs.flatten)))) (T : Tx G l) (B : Bt l 600) (h1 : G 3 1 = 0) : ∃ P' G', b_L_loads_344 (nI pts) (nI n) P G = some (true, P', G') ∧ Jn P' G' := by
  obtain ⟨G1, f, a1, a2, a3, a4, -, -⟩ := feeds_ok (P := P) T B.1 B.2 h1
  obtain ⟨P', G', N, S, b1, b2, b3, b4, b5, b6⟩ := load_ok (P := P) h2 h8 V hn hx hl B.2 a2 a3 a4
  refine ⟨P', G', ?_, ⟨N, S, b2⟩, b3⟩
  obtain ⟨x, y, w, c1, c2, c3, c4⟩ := cs_sum b2.1 (cnt N) (Nat.le_refl _)
  obtain ⟨x', y', e1, e2, e3⟩ := ls_sum b2.1 (cnt N) (Nat.le_refl _)
  unfold b_L_loads_344
  rw [a1, ob_some, lt_eq, b1, ob_some, lt_eq, lt_eq, lt_eq, c1, if_neg (nI_pos (by omega))]
  unfold f_X7_errorPosition
  rw [lt_eq, if_pos b4, s_0 b2, ob_some, if_pos b5, s_2 b2, ob_some, if_pos (by rw [b6]), s_3 b2, ob_some, if_pos c1, ob_some, s_4 b2, ob_some, s_5 b2, ob_some, if_pos (by rw [c1, c2, c3, nI_add, nI_add, c4, b6]), s_6 b2, ob_some, s_7 b2, ob_some, if_pos (by rw [e1, e2, nI_add, e3, b6])]
section LAW
variable {z : ZG} {P : RowsS} {hd : List Nat} {G0 G : GlbS} {k L : Nat}
theorem l213_ok (hz : z.2.2.2.1 ≤ 260) {pts n : Nat} (h0 : 0 < pts) (hpt : pts ≤ 8) (hn : n ≤ 12) (hL : L + 52 * n ≤ 600) (s0 : Sx pts hd G0 k L 0 G) : ∃ G', wloop (fun t : Int32 × GlbS => l_L_loads_213 z (nI pts) P (nI n) t.1 t.2) 200 (0, G) = some G' ∧ Sx pts hd G0 (k + n) (L + 52 * n) n G' := by
  refine wl_rel (f := fun t : Int32 × GlbS => l_L_loads_213 z (nI pts) P (nI n) t.1 t.2) (fun i s => s.1 = nI i ∧ Sx pts hd G0 (k + i) (L + 52 * i) i s.2) (fun r => Sx pts hd G0 (k + n) (L + 52 * n) n r) n (fun i s hi hs => ?_) (fun s hs => ?_) n 0 200 (0, G) (by omega) (by omega) ⟨rfl, s0⟩
  · obtain ⟨x, G1⟩ := s
    obtain ⟨g1, xs, V, T, F, hk, B⟩ := hs
    simp only at g1 T F
    subst g1
    obtain ⟨y, G2, k1, k2, k3, k4, k5⟩ := w_tube (P := P) hz h0 hpt hi hn T (by have := B.1; omega)
    refine ⟨(nI (i + 1), G2), k1, rfl, ?_⟩
    have := sx_add V F hk B k4 k2 k3 k5
    rw [show L + 52 * i + 52 = L + 52 * (i + 1) by omega, show k + i + 1 = k + (i + 1) by omega] at this
    exact this
  · obtain ⟨x, G1⟩ := s
    obtain ⟨g1, q⟩ := hs
    simp only at g1 q
    subst g1
    refine ⟨G1, ?_, q⟩
    show l_L_loads_213 z (nI pts) P (nI n) (nI n) G1 = _
    unfold l_L_loads_213
    rw [if_pos (by rw [nI_leI (by omega) (by omega)]; omega)]
theorem l145_ok (hz : z.2.2.2.1 ≤ 260) {pts : Nat} (hpt : pts ≤ 8) (hL : L + 23 * pts ≤ 600) (s0 : Sx pts hd G0 k L 0 G) : ∃ G', wloop (fun t : Int32 × GlbS => l_L_loads_145 z (nI pts) P t.1 t.2) 200 (0, G) = some G' ∧ Sx pts hd G0 (k + pts) (L + 23 * pts) 0 G' := by
  refine wl_rel (f := fun t : Int32 × GlbS => l_L_loads_145 z (nI pts) P t.1 t.2) (fun i s => s.1 = nI i ∧ Sx pts hd G0 (k + i) (L + 23 * i) 0 s.2) (fun r => Sx pts hd G0 (k + pts) (L + 23 * pts) 0 r) pts (fun i s hi hs => ?_) (fun s hs => ?_) pts 0 200 (0, G) (by omega) (by omega) ⟨rfl, s0⟩
  · obtain ⟨x, G1⟩ := s
    obtain ⟨g1, xs, V, T, F, hk, B⟩ := hs
    simp only at g1 T F
    subst g1
    obtain ⟨y, G2, k1, k2, k3, k4, k5⟩ := w_press (P := P) hz hpt hi T (by have := B.1; omega)
    refine ⟨(nI (i + 1), G2), k1, rfl, ?_⟩
    have := sx_add V F hk B k4 k2 k3 k5
    rw [show L + 23 * i + 23 = L + 23 * (i + 1) by omega, show k + i + 1 = k + (i + 1) by omega] at this
    exact this
  · obtain ⟨x, G1⟩ := s
    obtain ⟨g1, q⟩ := hs
    simp only at g1 q
    subst g1
    refine ⟨G1, ?_, q⟩
    show l_L_loads_145 z (nI pts) P (nI pts) G1 = _
    unfold l_L_loads_145
    rw [if_pos (by rw [nI_leI (by omega) (by omega)]; omega)]
theorem l40_ok (hz : z.2.2.2.1 ≤ 260) {pts : Nat} {x1 : Int32} (hL : L + 64 ≤ 600) (s0 : Sx pts hd G0 k L 0 G) : ∃ G', wloop (fun t : Int32 × GlbS => l_L_loads_40 z P x1 t.1 t.2) 200 (0, G) = some G' ∧ Sx pts hd G0 (k + 2) (L + 32 * 2) 0 G' := by
  refine wl_rel (f := fun t : Int32 × GlbS => l_L_loads_40 z P x1 t.1 t.2) (fun i s => s.1 = nI i ∧ Sx pts hd G0 (k + i) (L + 32 * i) 0 s.2) (fun r => Sx pts hd G0 (k + 2) (L + 32 * 2) 0 r) 2 (fun i s hi hs => ?_) (fun s hs => ?_) 2 0 200 (0, G) (by omega) (by omega) ⟨rfl, s0⟩
  · obtain ⟨x, G1⟩ := s
    obtain ⟨g1, xs, V, T, F, hk, B⟩ := hs
    simp only at g1 T F
    subst g1
    obtain ⟨y, G2, k1, k2, k3, k4, k5⟩ := w_leg (P := P) (x1 := x1) (pts := pts) hz hi T (by have := B.1; omega)
    refine ⟨(nI (i + 1), G2), k1, rfl, ?_⟩
    have := sx_add V F hk B k4 k2 k3 k5
    rw [show L + 32 * i + 32 = L + 32 * (i + 1) by omega, show k + i + 1 = k + (i + 1) by omega] at this
    exact this
  · obtain ⟨x, G1⟩ := s
    obtain ⟨g1, q⟩ := hs
    simp only at g1 q
    subst g1
    refine ⟨G1, ?_, q⟩
    show l_L_loads_40 z P x1 (nI 2) G1 = _
    unfold l_L_loads_40
    rw [if_pos (by decide)]
end LAW
theorem loads_ok (z : ZG) (hz : z.2.2.2.1 ≤ 260) (P : RowsS) {G : GlbS} (T0 : Tx G []) (h1 : G 3 1 = 0) : ∃ P' G', f_L_loads z P G = some (true, P', G') ∧ Jn P' G' := by
  obtain ⟨v, v1, v2, -⟩ := cell_ok z hz (k := 0) (by decide)
  have v12 := int_q (m := 12) v2 (by decide)
  obtain ⟨r, r1, r2⟩ := rem_nI (c := 4) v2 (by decide) (by decide)
  have r2 : v - v / 4 * 4 = nI r := r2
  obtain ⟨n, n1, n2⟩ := rem_nI (c := 8) v12 (by decide) (by decide)
  have n2 : (v / 12) - (v / 12) / 8 * 8 = nI n := n2
  obtain ⟨pts, hp⟩ : ∃ pts, pts = 2 + r := ⟨_, rfl⟩
  have x2 : 2 + (v - v / 4 * 4) = nI pts := by rw [r2, show (2 : Int32) = nI 2 from rfl, nI_add, hp]
  have bp : bd (nI pts) 2 5 := by unfold bd; rw [nI_toInt (by omega)]; omega
  have b5 : bd (50000 : Int32) 50000 50000 := by unfold bd; decide
  have t0 := bt_zl (i := 0) (by decide) (Nat.le_of_eq z_num.2.2.2.2.2.2.1)
  have s1 := bt_spd (bd_wd bp (c := -9999) (d := 999999) (by decide) (by decide))
  have s2 := bt_spd (bd_wd b5 (c := -9999) (d := 999999) (by decide) (by decide))
  have q0 := t0.1
  have q1 := s1.1
  have q2 := s2.1
  obtain ⟨G1, a1, a2, a3⟩ := writes_ok (P := P) (i := 0) (by decide) T0 (by show 0 + _ ≤ _; omega)
  rw [List.nil_append] at a2
  obtain ⟨G2, b1, b2, b3⟩ := spaced_ok (P := P) (bd_wd bp (c := -9999) (d := 999999) (by decide) (by decide)) a2 (by omega)
  obtain ⟨G3, c1, c2, c3⟩ := spaced_ok (P := P) (bd_wd b5 (c := -9999) (d := 999999) (by decide) (by decide)) b2 (by simp only [List.length_append]; omega)
  obtain ⟨G4, d1, d2, d3⟩ := writes_ok (P := P) (i := 3) (by decide) c2 (by rw [z_leg.2.2.2.2.2]; simp only [List.length_append, List.length_singleton]; omega)
  rw [z_leg.2.2.2.2.2] at d2
  simp only [List.append_assoc] at d2
  have s0 : Sx pts (zl 0 ++ (spd (nI pts).toInt ++ (spd (50000 : Int32).toInt ++ [59]))) G 0 21 0 G4 := ⟨[], rfl, by rw [List.flatten_nil, List.append_nil]; exact d2, frt_t a3 (frt_t b3 (frt_t c3 d3)), rfl, by rw [List.flatten_nil, List.append_nil]; exact bt_app t0 (bt_app s1 (bt_app s2 bt_59))⟩
  obtain ⟨G5, e1, e2⟩ := l40_ok (P := P) (x1 := v) hz (by decide) s0
  obtain ⟨G6, f1, f2⟩ := l145_ok (P := P) hz (by omega) (by omega) e2
  obtain ⟨G7, g1, xs, V, T, F, hk, B⟩ := l213_ok (P := P) (n := n) hz (by omega) (by omega) (by omega) (by omega) f2
  obtain ⟨P', G', k1, k2⟩ := b344_ok (P := P) (by omega) (by omega) V (by omega) (by omega) (by simp only [List.append_assoc]) T ⟨by have := B.1; omega, B.2⟩ (by rw [F 3 (by decide) (by decide)]; exact h1)
  refine ⟨P', G', ?_, k2⟩
  unfold f_L_loads b_L_loads_142 b_L_loads_201
  rw [show f_L_cell z 0 = some v from v1, ob_some, x2, lt_eq, a1, ob_some, lt_eq, b1, ob_some, lt_eq, c1, ob_some, lt_eq, d1, ob_some, lt_eq, e1, ob_some, f1, ob_some, n2, lt_eq, g1, ob_some]
  exact k1
theorem law_ok (z : ZG) (hz : z.2.2.2.1 ≤ 260) : ∃ (P' P2 : RowsS) (G' G2 : GlbS), f_L_loads z (va_up Pz 0 R1) Gz = some (true, P', G') ∧ f_L_holds z P' G' = some (true, P2, G2) := by
  obtain ⟨P', G', a1, a2⟩ := loads_ok z hz (va_up Pz 0 R1) (G := Gz) ⟨rfl, by decide, fun k hk => absurd hk (Nat.not_lt_zero _)⟩ rfl
  obtain ⟨P2, G2, b1⟩ := holds_ok z hz a2
  exact ⟨P', P2, G', G2, a1, b1⟩
