/-! FEED, formattedByte -/
def BufR (f : Nat) (G : GlbS) (M : RowS) : Prop := G 3 1 = nI f ∧ M.1 0 12 = nI f ∧ ∀ k, k < f → bd (M.1 11 k) 0 255 ∧ G 4 k = (M.1 11 k).toInt8.toInt32
def FrF (G' : GlbS) (M' : RowS) (G : GlbS) (M : RowS) : Prop := (∀ c, c ≠ 3 → c ≠ 4 → G' c = G c) ∧ (∀ k, k ≠ 1 → G' 3 k = G 3 k) ∧ (∀ c, c ≠ 0 → c ≠ 11 → M'.1 c = M.1 c) ∧ M'.2 = M.2 ∧ ∀ k, k ≠ 12 → M'.1 0 k = M.1 0 k
theorem frf_tr {G G1 G2 : GlbS} {M M1 M2 : RowS} (a : FrF G1 M1 G M) (b : FrF G2 M2 G1 M1) : FrF G2 M2 G M :=
  ⟨fun c h1 h2 => (b.1 c h1 h2).trans (a.1 c h1 h2), fun k h => (b.2.1 k h).trans (a.2.1 k h), fun c h1 h2 => (b.2.2.1 c h1 h2).trans (a.2.2.1 c h1 h2), b.2.2.2.1.trans a.2.2.2.1, fun k h => (b.2.2.2.2 k h).trans (a.2.2.2.2 k h)⟩
theorem byte_v (x : Int32) : bd (x &&& 255) 0 255 ∧ x.toInt8.toInt32 = (x &&& 255).toInt8.toInt32 := by
  obtain ⟨j, h1, h2⟩ := pk_andE x (m := 255) 8 (by decide)
  refine ⟨?_, ?_⟩
  · rw [h2]
    unfold bd
    rw [nI_toInt (by omega)]
    omega
  · rw [Int32.toInt8_and, show (255 : Int32).toInt8 = -1 from by decide, Int8.and_neg_one]
theorem c_byte {G : GlbS} {f : Nat} (hf : f < 600) (h : G 3 1 = nI f) {a z : Int32} (hz : ¬ z < 0) : l_X5_append_3 a z G = some (.inl (z + (-8), sg (sg G 4 f ((a >>> (z &&& 31)).toInt8.toInt32)) 3 1 (nI (f + 1)))) := by
  unfold l_X5_append_3 b_X5_append_49
  rw [if_neg hz, h, if_neg (nI_pos (by omega)), show (600 : Int32) = nI 600 from rfl, if_neg (by rw [nI_leI (by omega) (by omega)]; omega), nI_clamp (by omega)]
  have e : (sg G 4 f ((a >>> (z &&& 31)).toInt8.toInt32)) 3 1 = nI f := by rw [sg_c (by decide)]; exact h
  simp only [lt, e, nI_1]
theorem m_byte {M : RowS} {f : Nat} (hf : f < 600) (h : M.1 0 12 = nI f) {a z : Int32} (hz : ¬ z < 0) : l_X8_lays_3 a z M = some (.inl (z + (-8), si (si M 11 f ((a >>> (z &&& 31)) &&& 255)) 0 12 (nI (f + 1)))) := by
  unfold l_X8_lays_3
  rw [if_neg hz, h, if_pos (by rw [nI_toInt (by omega)]; omega), nI_clamp (by omega)]
  have e : (si M 11 f ((a >>> (z &&& 31)) &&& 255)).1 0 12 = nI f := by rw [si_ne (Or.inl (by decide))]; exact h
  simp only [lt, e, nI_1]
theorem byte_ok {G : GlbS} {M : RowS} {f : Nat} (h : BufR f G M) (x : Int32) : BufR (f + 1) (sg (sg G 4 f x.toInt8.toInt32) 3 1 (nI (f + 1))) (si (si M 11 f (x &&& 255)) 0 12 (nI (f + 1))) ∧ FrF (sg (sg G 4 f x.toInt8.toInt32) 3 1 (nI (f + 1))) (si (si M 11 f (x &&& 255)) 0 12 (nI (f + 1))) G M := by
  refine ⟨⟨sg_at, si_at, fun k hk => ?_⟩, fun c h3 h4 => by rw [sg_c h3, sg_c h4], fun k hk => by rw [sg_ne (Or.inr hk), sg_c (by decide)], fun c h0 h11 => ?_, rfl, fun k hk => by rw [si_ne (Or.inr hk), si_ne (Or.inl (by decide))]⟩
  · rw [si_ne (Or.inl (by decide)), sg_c (by decide)]
    by_cases q : k = f
    · subst q
      rw [si_at, sg_at]
      exact byte_v x
    · rw [si_ne (Or.inr q), sg_ne (Or.inr q)]
      exact h.2.2 k (by omega)
  · unfold si
    simp only [va_up_ne _ _ h0, va_up_ne _ _ h11]
theorem app_ok {G : GlbS} {M : RowS} {f : Nat} (h : BufR f G M) (hf : f + 4 ≤ 600) (a : Int32) : ∃ G' M', f_X5_append 200 G a = some G' ∧ f_X8_lays 200 M a = some M' ∧ BufR (f + 4) G' M' ∧ FrF G' M' G M := by
  have b1 := byte_ok h (a >>> ((24 : Int32) &&& 31))
  have c1 := c_byte (f := f) (by omega) h.1 (a := a) (z := 24) (by decide)
  have m1 := m_byte (f := f) (by omega) h.2.1 (a := a) (z := 24) (by decide)
  generalize sg (sg G 4 f ((a >>> ((24 : Int32) &&& 31)).toInt8.toInt32)) 3 1 (nI (f + 1)) = G1 at b1 c1
  generalize si (si M 11 f ((a >>> ((24 : Int32) &&& 31)) &&& 255)) 0 12 (nI (f + 1)) = M1 at b1 m1
  have b2 := byte_ok b1.1 (a >>> ((16 : Int32) &&& 31))
  have c2 := c_byte (f := f + 1) (by omega) b1.1.1 (a := a) (z := 16) (by decide)
  have m2 := m_byte (f := f + 1) (by omega) b1.1.2.1 (a := a) (z := 16) (by decide)
  generalize sg (sg G1 4 (f + 1) ((a >>> ((16 : Int32) &&& 31)).toInt8.toInt32)) 3 1 (nI (f + 1 + 1)) = G2 at b2 c2
  generalize si (si M1 11 (f + 1) ((a >>> ((16 : Int32) &&& 31)) &&& 255)) 0 12 (nI (f + 1 + 1)) = M2 at b2 m2
  have b3 := byte_ok b2.1 (a >>> ((8 : Int32) &&& 31))
  have c3 := c_byte (f := f + 1 + 1) (by omega) b2.1.1 (a := a) (z := 8) (by decide)
  have m3 := m_byte (f := f + 1 + 1) (by omega) b2.1.2.1 (a := a) (z := 8) (by decide)
  generalize sg (sg G2 4 (f + 1 + 1) ((a >>> ((8 : Int32) &&& 31)).toInt8.toInt32)) 3 1 (nI (f + 1 + 1 + 1)) = G3 at b3 c3
  generalize si (si M2 11 (f + 1 + 1) ((a >>> ((8 : Int32) &&& 31)) &&& 255)) 0 12 (nI (f + 1 + 1 + 1)) = M3 at b3 m3
  have b4 := byte_ok b3.1 (a >>> ((0 : Int32) &&& 31))
  have c4 := c_byte (f := f + 1 + 1 + 1) (by omega) b3.1.1 (a := a) (z := 0) (by decide)
  have m4 := m_byte (f := f + 1 + 1 + 1) (by omega) b3.1.2.1 (a := a) (z := 0) (by decide)
  generalize sg (sg G3 4 (f + 1 + 1 + 1) ((a >>> ((0 : Int32) &&& 31)).toInt8.toInt32)) 3 1 (nI (f + 1 + 1 + 1 + 1)) = G4 at b4 c4
  generalize si (si M3 11 (f + 1 + 1 + 1) ((a >>> ((0 : Int32) &&& 31)) &&& 255)) 0 12 (nI (f + 1 + 1 + 1 + 1)) = M4 at b4 m4
  refine ⟨G4, M4, ?_, ?_, b4.1, frf_tr b1.2 (frf_tr b2.2 (frf_tr b3.2 b4.2))⟩
  · have e : wloop (fun t : Int32 × GlbS => l_X5_append_3 a t.1 t.2) 200 (24, G) = some G4 := by
      refine (wl_st (f := fun t : Int32 × GlbS => l_X5_append_3 a t.1 t.2) (n := 199) (s := (24, G)) c1).trans ?_
      refine (wl_st (f := fun t : Int32 × GlbS => l_X5_append_3 a t.1 t.2) (n := 198) (s := (16, G1)) c2).trans ?_
      refine (wl_st (f := fun t : Int32 × GlbS => l_X5_append_3 a t.1 t.2) (n := 197) (s := (8, G2)) c3).trans ?_
      refine (wl_st (f := fun t : Int32 × GlbS => l_X5_append_3 a t.1 t.2) (n := 196) (s := (0, G3)) c4).trans ?_
      refine wl_en (n := 195) ?_
      show l_X5_append_3 a ((0 : Int32) + (-8)) G4 = _
      unfold l_X5_append_3
      rw [if_pos (by decide)]
    unfold f_X5_append
    rw [e]
    rfl
  · have e : wloop (fun t : Int32 × RowS => l_X8_lays_3 a t.1 t.2) 200 (24, M) = some M4 := by
      refine (wl_st (f := fun t : Int32 × RowS => l_X8_lays_3 a t.1 t.2) (n := 199) (s := (24, M)) m1).trans ?_
      refine (wl_st (f := fun t : Int32 × RowS => l_X8_lays_3 a t.1 t.2) (n := 198) (s := (16, M1)) m2).trans ?_
      refine (wl_st (f := fun t : Int32 × RowS => l_X8_lays_3 a t.1 t.2) (n := 197) (s := (8, M2)) m3).trans ?_
      refine (wl_st (f := fun t : Int32 × RowS => l_X8_lays_3 a t.1 t.2) (n := 196) (s := (0, M3)) m4).trans ?_
      refine wl_en (n := 195) ?_
      show l_X8_lays_3 a ((0 : Int32) + (-8)) M4 = _
      unfold l_X8_lays_3
      rw [if_pos (by decide)]
    unfold f_X8_lays
    rw [e]
    rfl
section FEED
variable {P : RowsS} {G : GlbS} {M : RowS}
theorem ok_feed (I : Inv P G M) (a1 a2 a3 a4 a5 : Int32) : OK_feed Inv P G M a1 a2 a3 a4 a5 := by
  unfold OK_feed f_X7_feed f_X8_feed
  have I0 : Inv P G (si M 0 0 0) := I
  simp only [lt]
  generalize si M 0 0 0 = M0 at I0 ⊢
  obtain ⟨g, t1, t2, t3, t4, t5⟩ := id I0
  obtain ⟨f, f1, f2, f3, f4⟩ := t3
  have e20 : nI f + 20 = nI (f + 20) := by rw [show (20 : Int32) = nI 20 from rfl, nI_add]
  have hr : f_X5_hasRoomFor G 20 = if nI 600 < nI (f + 20) then false else true := by
    unfold f_X5_hasRoomFor
    rw [f2, e20]
    rfl
  rw [hr, f3, e20, show (600 : Int32) = nI 600 from rfl]
  by_cases hq : f + 20 ≤ 600
  · have q2 : nI (f + 20) ≤ nI 600 := by rw [nI_leI (by omega) (by omega)]; omega
    rw [if_neg (by rw [nI_ltI (by omega) (by omega)]; omega)]
    obtain ⟨G1, M1, x1, y1, z1, w1⟩ := app_ok (G := G) (M := M0) (f := f) ⟨f2, f3, f4⟩ (by omega) a1
    obtain ⟨G2, M2, x2, y2, z2, w2⟩ := app_ok z1 (by omega) a2
    obtain ⟨G3, M3, x3, y3, z3, w3⟩ := app_ok z2 (by omega) a3
    obtain ⟨G4, M4, x4, y4, z4, w4⟩ := app_ok z3 (by omega) a4
    obtain ⟨G5, M5, x5, y5, z5, w5⟩ := app_ok z4 (by omega) a5
    have w := frf_tr w1 (frf_tr w2 (frf_tr w3 (frf_tr w4 w5)))
    refine ⟨200, G5 3 1, G5, 200, M5.1 0 12, M5, ?_, ?_, by rw [z5.1, z5.2.1], ?_, ?_, ?_, ?_, ?_, ?_⟩
    · rw [if_pos rfl, x1, ob_some, x2, ob_some, x3, ob_some, x4, ob_some, x5, ob_some]
    · rw [if_pos q2, y1, ob_some, y2, ob_some, y3, ob_some, y4, ob_some, y5, ob_some]
    · rw [w.2.2.1 1 (by decide) (by decide), w.2.2.2.1]; exact g
    · exact hist_fr t1 (fun _ _ => rfl) (w.1 1 (by decide) (by decide)) (w.2.2.1 4 (by decide) (by decide)) (by rw [w.2.2.2.1]) (w.2.2.2.2 9 (by decide))
    · exact snap_fr t2 rfl (by rw [w.1 0 (by decide) (by decide)]) (w.2.2.1 2 (by decide) (by decide)) (by rw [w.2.2.2.1]) (w.2.2.2.2 10 (by decide))
    · exact ⟨f + 4 + 4 + 4 + 4 + 4, by omega, z5.1, z5.2.1, z5.2.2⟩
    · rw [w.2.1 8 (by decide), w.2.2.2.2 20 (by decide)]; exact t4
    · exact fmt_fr t5 (by rw [w.1 5 (by decide) (by decide)]) (w.1 6 (by decide) (by decide)) (w.2.2.1 21 (by decide) (by decide)) (w.2.2.2.2 22 (by decide))
  · have q2 : ¬ nI (f + 20) ≤ nI 600 := by rw [nI_leI (by omega) (by omega)]; omega
    rw [if_pos (by rw [nI_ltI (by omega) (by omega)]; omega)]
    exact ⟨200, -1, G, 200, -1, M0, if_neg Bool.false_ne_true, if_neg q2, rfl, I0⟩
end FEED
