/-! FORMAT 3: words, the whole -/
theorem shl_0 : ∀ m, m < 17 → nI m <<< ((0 : Int32) &&& 31) = nI m := by decide +kernel
theorem fx_f {m E : Nat} {f : Nat → Int32} {G : GlbS} {M : RowS} (h : FX m G M) (hf : ∀ k, m ≤ k → k < E → bd (f k) 0 127) : FX E (sg (wrG G m E f) 5 3 (nI E)) (wrM M m E f) ∧ FFr (sg (wrG G m E f) 5 3 (nI E)) (wrM M m E f) G M := by
  refine ⟨⟨sg_at, wm_22, fun k hk => ?_⟩, fun c h5 h6 => by rw [sg_c h5, wrG_c h6], fun c h0 h21 => wm_c h0 h21, rfl, fun k hk => wm_k hk⟩
  rw [sg_c (by decide), wm_21, wrG_6]
  by_cases q : m ≤ k ∧ k < E
  · rw [if_pos q, if_pos q]
    exact ⟨hf k q.1 q.2, rfl⟩
  · rw [if_neg q, if_neg q]
    exact h.2.2 k (by omega)
theorem ww_s {w b b' : Int64} {m i : Nat} {M : RowS} {f : Nat → Int32} (h1 : ¬ b ≤ 0) (h2 : ¬ b = 0) (hm : m ≤ i) (hi : i < 40) (hf : f i = (((w / b) - (w / b) / 27 * 27).toInt32) + 96) (h4 : b / 27 = b') : l_X8_writesWord_21 w b (wrM M m i f) = some (.inl (b', wrM M m (i + 1) f)) := by
  unfold l_X8_writesWord_21
  rw [if_neg h1, if_pos h2, wm_s hm hi hf, ob_some, lt_eq, lt_eq, h4]
theorem ww_e {w : Int64} {M : RowS} : l_X8_writesWord_21 w 0 M = some (.inr M) := by
  unfold l_X8_writesWord_21
  rw [if_pos (by decide)]
theorem word_s {m : Nat} {G : GlbS} {M : RowS} (h : FX m G M) (hm : m + 6 ≤ 16) : ∃ G' M', f_J4_append_15ec4 G 17 = some G' ∧ f_X8_writesWord 200 M 283856701 = some M' ∧ FX (m + 6) G' M' ∧ FFr G' M' G M := by
  have hb : ∀ i, i < 6 → bd (zch 17 i) 0 127 := by unfold bd; decide +kernel
  obtain ⟨f, hf⟩ : ∃ f : Nat → Int32, f = fun k => zch 17 (0 + (k - m)) := ⟨_, rfl⟩
  have fa : ∀ i, f (m + i) = zch 17 i := fun i => by rw [hf]; show zch 17 (0 + (m + i - m)) = _; rw [Nat.zero_add, Nat.add_sub_cancel_left]
  have hx := fx_f (m := m) (E := m + 6) (f := f) h (fun k h1 h2 => by
    obtain ⟨i, rfl⟩ : ∃ i, k = m + i := ⟨k - m, by omega⟩
    rw [fa]; exact hb i (by omega))
  refine ⟨_, _, ?_, ?_, hx.1, hx.2⟩
  · have hl : f_J0_length_8abf5 17 = nI 6 := by decide +kernel
    have e1 : nI (m + 6) - 16 ≤ 0 := by
      rw [show (16 : Int32) = nI 16 from rfl, i32_le, pk_sub_toInt (by omega) (by omega), show (0 : Int32).toInt = 0 from rfl]
      omega
    have es := shl_0 m (by omega)
    have ez : zlen 17 = 6 := by decide +kernel
    have hw : va_up G 6 (va_cpy (zch 17) (G 6) 0 m 6) = wrG G m (m + 6) f := by rw [hf]; rfl
    unfold f_J4_append_15ec4 f_J5_append_cf1ce f_J5_ensureCapacityInternal_d00df f_J5_putStringAt_47b60 f_J0_getBytes_840e7
    simp only [lt, hl, h.1, nI_add, if_pos e1, ob_some, es, ez, if_true]
    rw [if_pos (by rw [nI_toInt (by omega), nI_toInt (by omega)]; omega), ob_some, ob_some, nI_clamp (by omega), nI_clamp (by omega), hw, wrG_c (by decide), h.1, nI_add]
    rfl
  · have e1 : wloop (fun t : Int64 => l_X8_writesWord_2 283856701 t) 200 1 = some 14348907 := by decide +kernel
    have e2 : wloop (fun t : Int64 × RowS => l_X8_writesWord_21 283856701 t.1 t.2) 200 (14348907, wrM M m m f) = some (wrM M m (m + 6) f) := by
      refine (wl_st (f := fun t : Int64 × RowS => l_X8_writesWord_21 283856701 t.1 t.2) (n := 199) (s := (14348907, wrM M m (m + 0) f)) (ww_s (w := 283856701) (b := 14348907) (b' := 531441) (by decide) (by decide) (by omega) (by omega) (by rw [fa]; decide +kernel) (by decide))).trans ?_
      refine (wl_st (f := fun t : Int64 × RowS => l_X8_writesWord_21 283856701 t.1 t.2) (n := 198) (s := (531441, wrM M m (m + 1) f)) (ww_s (w := 283856701) (b := 531441) (b' := 19683) (by decide) (by decide) (by omega) (by omega) (by rw [fa]; decide +kernel) (by decide))).trans ?_
      refine (wl_st (f := fun t : Int64 × RowS => l_X8_writesWord_21 283856701 t.1 t.2) (n := 197) (s := (19683, wrM M m (m + 2) f)) (ww_s (w := 283856701) (b := 19683) (b' := 729) (by decide) (by decide) (by omega) (by omega) (by rw [fa]; decide +kernel) (by decide))).trans ?_
      refine (wl_st (f := fun t : Int64 × RowS => l_X8_writesWord_21 283856701 t.1 t.2) (n := 196) (s := (729, wrM M m (m + 3) f)) (ww_s (w := 283856701) (b := 729) (b' := 27) (by decide) (by decide) (by omega) (by omega) (by rw [fa]; decide +kernel) (by decide))).trans ?_
      refine (wl_st (f := fun t : Int64 × RowS => l_X8_writesWord_21 283856701 t.1 t.2) (n := 195) (s := (27, wrM M m (m + 4) f)) (ww_s (w := 283856701) (b := 27) (b' := 1) (by decide) (by decide) (by omega) (by omega) (by rw [fa]; decide +kernel) (by decide))).trans ?_
      refine (wl_st (f := fun t : Int64 × RowS => l_X8_writesWord_21 283856701 t.1 t.2) (n := 194) (s := (1, wrM M m (m + 5) f)) (ww_s (w := 283856701) (b := 1) (b' := 0) (by decide) (by decide) (by omega) (by omega) (by rw [fa]; decide +kernel) (by decide))).trans ?_
      exact wl_en (n := 193) (s := (0, wrM M m (m + 6) f)) ww_e
    rw [wm_0 h.2.1] at e2
    unfold f_X8_writesWord
    rw [e1, ob_some]
    unfold b_X8_writesWord_21
    rw [e2]
    rfl
theorem word_b {m : Nat} {G : GlbS} {M : RowS} (h : FX m G M) (hm : m + 5 ≤ 16) : ∃ G' M', f_J4_append_15ec4 G 18 = some G' ∧ f_X8_writesWord 200 M 1310648 = some M' ∧ FX (m + 5) G' M' ∧ FFr G' M' G M := by
  have hb : ∀ i, i < 5 → bd (zch 18 i) 0 127 := by unfold bd; decide +kernel
  obtain ⟨f, hf⟩ : ∃ f : Nat → Int32, f = fun k => zch 18 (0 + (k - m)) := ⟨_, rfl⟩
  have fa : ∀ i, f (m + i) = zch 18 i := fun i => by rw [hf]; show zch 18 (0 + (m + i - m)) = _; rw [Nat.zero_add, Nat.add_sub_cancel_left]
  have hx := fx_f (m := m) (E := m + 5) (f := f) h (fun k h1 h2 => by
    obtain ⟨i, rfl⟩ : ∃ i, k = m + i := ⟨k - m, by omega⟩
    rw [fa]; exact hb i (by omega))
  refine ⟨_, _, ?_, ?_, hx.1, hx.2⟩
  · have hl : f_J0_length_8abf5 18 = nI 5 := by decide +kernel
    have e1 : nI (m + 5) - 16 ≤ 0 := by
      rw [show (16 : Int32) = nI 16 from rfl, i32_le, pk_sub_toInt (by omega) (by omega), show (0 : Int32).toInt = 0 from rfl]
      omega
    have es := shl_0 m (by omega)
    have ez : zlen 18 = 5 := by decide +kernel
    have hw : va_up G 6 (va_cpy (zch 18) (G 6) 0 m 5) = wrG G m (m + 5) f := by rw [hf]; rfl
    unfold f_J4_append_15ec4 f_J5_append_cf1ce f_J5_ensureCapacityInternal_d00df f_J5_putStringAt_47b60 f_J0_getBytes_840e7
    simp only [lt, hl, h.1, nI_add, if_pos e1, ob_some, es, ez, if_true]
    rw [if_pos (by rw [nI_toInt (by omega), nI_toInt (by omega)]; omega), ob_some, ob_some, nI_clamp (by omega), nI_clamp (by omega), hw, wrG_c (by decide), h.1, nI_add]
    rfl
  · have e1 : wloop (fun t : Int64 => l_X8_writesWord_2 1310648 t) 200 1 = some 531441 := by decide +kernel
    have e2 : wloop (fun t : Int64 × RowS => l_X8_writesWord_21 1310648 t.1 t.2) 200 (531441, wrM M m m f) = some (wrM M m (m + 5) f) := by
      refine (wl_st (f := fun t : Int64 × RowS => l_X8_writesWord_21 1310648 t.1 t.2) (n := 199) (s := (531441, wrM M m (m + 0) f)) (ww_s (w := 1310648) (b := 531441) (b' := 19683) (by decide) (by decide) (by omega) (by omega) (by rw [fa]; decide +kernel) (by decide))).trans ?_
      refine (wl_st (f := fun t : Int64 × RowS => l_X8_writesWord_21 1310648 t.1 t.2) (n := 198) (s := (19683, wrM M m (m + 1) f)) (ww_s (w := 1310648) (b := 19683) (b' := 729) (by decide) (by decide) (by omega) (by omega) (by rw [fa]; decide +kernel) (by decide))).trans ?_
      refine (wl_st (f := fun t : Int64 × RowS => l_X8_writesWord_21 1310648 t.1 t.2) (n := 197) (s := (729, wrM M m (m + 2) f)) (ww_s (w := 1310648) (b := 729) (b' := 27) (by decide) (by decide) (by omega) (by omega) (by rw [fa]; decide +kernel) (by decide))).trans ?_
      refine (wl_st (f := fun t : Int64 × RowS => l_X8_writesWord_21 1310648 t.1 t.2) (n := 196) (s := (27, wrM M m (m + 3) f)) (ww_s (w := 1310648) (b := 27) (b' := 1) (by decide) (by decide) (by omega) (by omega) (by rw [fa]; decide +kernel) (by decide))).trans ?_
      refine (wl_st (f := fun t : Int64 × RowS => l_X8_writesWord_21 1310648 t.1 t.2) (n := 195) (s := (1, wrM M m (m + 4) f)) (ww_s (w := 1310648) (b := 1) (b' := 0) (by decide) (by decide) (by omega) (by omega) (by rw [fa]; decide +kernel) (by decide))).trans ?_
      exact wl_en (n := 194) (s := (0, wrM M m (m + 5) f)) ww_e
    rw [wm_0 h.2.1] at e2
    unfold f_X8_writesWord
    rw [e1, ob_some]
    unfold b_X8_writesWord_21
    rw [e2]
    rfl

section FORMAT
variable {P : RowsS} {G : GlbS} {M : RowS}
theorem c_len0 (h : ∃ m : Nat, m ≤ 16 ∧ G 5 3 = nI m) : ∃ G', f_J4_setLength_d00df G 0 = some G' ∧ G' 5 3 = 0 ∧ ∀ c, c ≠ 5 → G' c = G c := by
  obtain ⟨m, h1, h2⟩ := h
  unfold f_J4_setLength_d00df f_J5_setLength_d00df f_J5_ensureCapacityInternal_d00df b_J5_setLength_d00df_76
  have e1 : (0 : Int32) ≤ nI m := nI_pos' (by omega)
  have e2 : (0 : Int32) - 16 ≤ 0 := by decide
  have e3 : (0 : Int32) ≤ 0 := by decide
  simp only [lt, if_pos e3, if_pos e2, ob_some, h2, if_pos e1]
  by_cases q : nI m ≤ 0
  · exact ⟨sg G 5 3 0, by rw [if_pos q, ob_some], sg_at, fun c hc => sg_c hc⟩
  · exact ⟨sg (sg G 5 2 1) 5 3 0, by rw [if_neg q, ob_some], sg_at, fun c hc => by rw [sg_c hc, sg_c hc]⟩
theorem fx_end {P : RowsS} {G G' : GlbS} {M M' : RowS} {m : Nat} (I : Inv P G M) (hm : m ≤ 16) (x : FX m G' M') (f1 : ∀ c, c ≠ 5 → c ≠ 6 → G' c = G c) (f2 : ∀ c, c ≠ 0 → c ≠ 21 → M'.1 c = M.1 c) (f3 : M'.2 = M.2) (f4 : ∀ k, k ≠ 22 → M'.1 0 k = M.1 0 k) : Inv P G' M' := by
  obtain ⟨g, t1, t2, t3, t4, t5⟩ := I
  refine ⟨by rw [f2 1 (by decide) (by decide), f3]; exact g, hist_fr t1 (fun _ _ => rfl) (f1 1 (by decide) (by decide)) (f2 4 (by decide) (by decide)) (by rw [f3]) (f4 9 (by decide)), snap_fr t2 rfl (by rw [f1 0 (by decide) (by decide)]) (f2 2 (by decide) (by decide)) (by rw [f3]) (f4 10 (by decide)), buf_fr t3 (by rw [f1 3 (by decide) (by decide)]) (f1 4 (by decide) (by decide)) (f2 11 (by decide) (by decide)) (f4 12 (by decide)), by rw [f1 3 (by decide) (by decide), f4 20 (by decide)]; exact t4, ⟨m, hm, x.1, x.2.1, x.2.2⟩⟩
theorem signed_ok {m : Nat} {G : GlbS} {M : RowS} (h : FX m G M) (hm : m + 6 ≤ 16) {v : Int32} (hv : -99999 ≤ v.toInt ∧ v.toInt ≤ 99999) : ∃ m2 G' M', m2 ≤ m + 6 ∧ f_J4_append_bf812 200 G v = some G' ∧ f_X8_writesSigned 200 M v = some M' ∧ FX m2 G' M' ∧ FFr G' M' G M := by
  by_cases q : 0 ≤ v.toInt
  · obtain ⟨n, hn, rfl⟩ : ∃ n : Nat, n < 100000 ∧ v = nI n := ⟨v.toInt.toNat, by omega, gI_of (by omega)⟩
    obtain ⟨D, d1, d2, d3, d4, d5⟩ := num_ok h hn
    obtain ⟨G', M', e1, e2, e3, e4⟩ := d5 (by omega)
    refine ⟨m + D, G', M', by omega, e1, ?_, e3, e4⟩
    unfold f_X8_writesSigned b_X8_writesSigned_10
    have ho : f_X8_off0 (nI n) = nI n := by
      unfold f_X8_off0
      rw [if_pos (nI_pos' (by omega))]
    rw [if_pos (nI_pos' (by omega)), ho, lt_eq, e2, ob_some]
    rfl
  · obtain ⟨n, hn, h1, hv'⟩ : ∃ n : Nat, n < 100000 ∧ 1 ≤ n ∧ v = -nI n := ⟨(-v.toInt).toNat, by omega, by omega, i32_eq (by rw [ng_int (by omega)]; omega)⟩
    subst hv'
    obtain ⟨D, G', M', d2, e1, e2, e3, e4⟩ := neg_ok h h1 hn hm
    exact ⟨m + (D + 1), G', M', by omega, e1, e2, e3, e4⟩
theorem ok_format (I : Inv P G M) (a1 : Int32) : OK_format Inv P G M a1 := by
  unfold OK_format f_X7_format t_X7_format f_X8_format b_X7_format_131 b_X7_format_135 b_X8_format_114
  have I0 : Inv P G (si M 0 0 0) := I
  have t0 : (si M 0 0 0).1 0 0 = 0 := si_at
  simp only [lt]
  generalize si M 0 0 0 = M0 at I0 t0 ⊢
  have g := I0.1
  have h := g.1
  rcases tube_cases (G := G) g.1 g.2.2.2.2.1.2.2.1 a1 with ⟨t, p1, p2, p3, p4, p5, p6⟩ | ⟨p4, p5, p6⟩
  · left
    subst p3
    obtain ⟨mm, i1, i2, -⟩ := I0.2.2.2.2.2
    obtain ⟨Ga, s1, s2, s3⟩ := c_len0 ⟨mm, i1, i2⟩
    have xa : FX 0 Ga (si M0 0 22 0) := ⟨s2, si_at, fun k hk => by omega⟩
    have fa : ∀ c, c ≠ 0 → c ≠ 21 → (si M0 0 22 0).1 c = M0.1 c := fun c h0 _ => by unfold si; simp only [va_up_ne _ _ h0]
    have fb : (si M0 0 22 0).2 = M0.2 := rfl
    have fc : ∀ k, k ≠ 22 → (si M0 0 22 0).1 0 k = M0.1 0 k := fun k hk => si_ne (Or.inr hk)
    obtain ⟨Ma, hMa⟩ : ∃ Ma, Ma = si M0 0 22 0 := ⟨_, rfl⟩
    rw [← hMa] at xa fb
    simp only [← hMa] at fa fc
    have hlg := lgOf_lt h p1
    have hpt := ptOf_lt h p1
    have hsl := (h.2.2.2.2.2 t p1).2.2.2.2.1
    obtain ⟨sl_, hsn, hse⟩ : ∃ n : Nat, n < 10000 ∧ tg (M0.1 1) t 3 = nI n := ⟨(tg (M0.1 1) t 3).toInt.toNat, by unfold bd at hsl; omega, gI_of (by unfold bd at hsl; omega)⟩
    obtain ⟨D1, a1_, a2_, a3_, a4_, a5_⟩ := num_ok xa (n := lgOf (M0.1 1) t) (by omega)
    have hD1 : D1 = 1 := by have := a3_ (by omega); omega
    subst hD1
    obtain ⟨G1, M1, b1, b2, b3, b4⟩ := a5_ (by omega)
    obtain ⟨G2, M2, c1, c2, c3, c4⟩ := char_ok b3 (by omega) (c := 47) (by unfold bd; decide) (by decide)
    obtain ⟨D2, d1, d2, d3, d4, d5⟩ := num_ok c3 (n := ptOf (M0.1 1) t) (by omega)
    have hD2 : D2 = 1 := by have := d3 (by omega); omega
    subst hD2
    obtain ⟨G3, M3, e1, e2, e3, e4⟩ := d5 (by omega)
    obtain ⟨G4, M4, f1, f2, f3, f4⟩ := char_ok e3 (by omega) (c := 32) (by unfold bd; decide) (by decide)
    obtain ⟨D3, j1, j2, j3, j4, j5⟩ := num_ok f3 (n := sl_) (by omega)
    have hD3 := j4 hsn
    obtain ⟨G5, M5, k1, k2, k3, k4⟩ := j5 (by omega)
    obtain ⟨G6, M6, l1, l2, l3, l4⟩ := char_ok k3 (by omega) (c := 32) (by unfold bd; decide) (by decide)
    have fr := ffr_tr b4 (ffr_tr c4 (ffr_tr e4 (ffr_tr f4 (ffr_tr k4 l4))))
    have r2 : M2.1 1 = M0.1 1 := by rw [(ffr_tr b4 c4).2.1 1 (by decide) (by decide)]; exact fa 1 (by decide) (by decide)
    have r4 : M4.1 1 = M0.1 1 := by rw [(ffr_tr b4 (ffr_tr c4 (ffr_tr e4 f4))).2.1 1 (by decide) (by decide)]; exact fa 1 (by decide) (by decide)
    have r6 : M6.1 1 = M0.1 1 := by rw [fr.2.1 1 (by decide) (by decide)]; exact fa 1 (by decide) (by decide)
    have r62 : M6.2 = M0.2 := by rw [fr.2.2.1, fb]
    have ra : Ma.1 1 = M0.1 1 := fa 1 (by decide) (by decide)
    have fin : ∀ (m : Nat) (G' : GlbS) (M' : RowS), m ≤ 16 → FX m G' M' → FFr G' M' G6 M6 → Inv P G' M' ∧ M'.1 0 0 = 0 := by
      intro m G' M' hm hx hf
      have fr2 := ffr_tr fr hf
      refine ⟨fx_end I0 hm hx (fun c h5 h6 => by rw [fr2.1 c h5 h6, s3 c h5]) (fun c h0 h21 => by rw [fr2.2.1 c h0 h21, fa c h0 h21]) (by rw [fr2.2.2.1, fb]) (fun k hk => by rw [fr2.2.2.2 k hk, fc k hk]), by rw [fr2.2.2.2 0 (by decide), fc 0 (by decide)]; exact t0⟩
    have mo0 : f_X8_of Ma (nI t) 0 = some (nI (lgOf (M0.1 1) t)) := by rw [m_of0 p2, ra, tg0 h p1]
    have mo1 : f_X8_of M2 (nI t) 1 = some (nI (ptOf (M0.1 1) t)) := by rw [m_of1 p2, r2, tg1 h p1]
    have mo3 : f_X8_of M4 (nI t) 3 = some (nI sl_) := by rw [m_of3 p2, r4, hse]
    simp only [p4, p6, ob_some, b2i_t, fails_t t0, ff_t, c_tubeAt (R := P 0) p2, c_tg g p1 (show 0 < 7 by decide), c_tg g p1 (show 1 < 7 by decide), c_tg g p1 (show 3 < 7 by decide), c_tg g p1 (show 6 < 7 by decide), tg0 h p1, tg1 h p1, hse, c_reading g p1]
    have hrb := read_bd h g.2.1 p1
    by_cases h6 : tg (M0.1 1) t 6 = 0
    · obtain ⟨m2, G7, M7, u1, u2, u3, u4, u5⟩ := signed_ok l3 (by omega) (v := readS (M0.1 1) (M0.2 5) t) (by omega)
      have fi := fin m2 G7 M7 (by omega) u4 u5
      have mr := m_reading (M := M6) (t := t) (by rw [r6]; exact h) (by rw [r6, r62]; exact g.2.1) (by rw [r6]; exact p1) (n := 200) (by omega)
      rw [r6, r62] at mr
      refine ⟨200, nI m2, G7, 200, nI m2, M7, ?_, ?_, fi.2, rfl, fi.1⟩
      · rw [s1, ob_some, b1, ob_some, c1, ob_some, e1, ob_some, f1, ob_some, k1, ob_some, l1, ob_some, if_pos h6, u2, ob_some]
        show some (G7 5 3, G7) = _
        rw [u4.1]
      · rw [← hMa, mo0, ob_some, b2, ob_some, c2, ob_some, mo1, ob_some, e2, ob_some, f2, ob_some, mo3, ob_some, k2, ob_some, l2, ob_some, m_whole p2, r6, if_pos h6, ob_some, if_pos rfl, mr, ob_some, u3, ob_some, u4.2.1]
    · by_cases h61 : tg (M0.1 1) t 6 = 1
      · obtain ⟨G7, M7, u2, u3, u4, u5⟩ := word_s l3 (by omega)
        have fi := fin _ G7 M7 (by omega) u4 u5
        refine ⟨200, G7 5 3, G7, 200, G7 5 3, M7, ?_, ?_, fi.2, rfl, fi.1⟩
        · rw [s1, ob_some, b1, ob_some, c1, ob_some, e1, ob_some, f1, ob_some, k1, ob_some, l1, ob_some, if_neg h6, if_pos h61, u2, ob_some]
          rfl
        · rw [← hMa, mo0, ob_some, b2, ob_some, c2, ob_some, mo1, ob_some, e2, ob_some, f2, ob_some, mo3, ob_some, k2, ob_some, l2, ob_some, m_whole p2, r6, if_neg h6, ob_some, if_neg Bool.false_ne_true, m_of6 p2, ob_some, r6, if_pos h61, u3, ob_some, u4.1, u4.2.1]
      · obtain ⟨G7, M7, u2, u3, u4, u5⟩ := word_b l3 (by omega)
        have fi := fin _ G7 M7 (by omega) u4 u5
        refine ⟨200, G7 5 3, G7, 200, G7 5 3, M7, ?_, ?_, fi.2, rfl, fi.1⟩
        · rw [s1, ob_some, b1, ob_some, c1, ob_some, e1, ob_some, f1, ob_some, k1, ob_some, l1, ob_some, if_neg h6, if_neg h61, u2, ob_some]
          rfl
        · rw [← hMa, mo0, ob_some, b2, ob_some, c2, ob_some, mo1, ob_some, e2, ob_some, f2, ob_some, mo3, ob_some, k2, ob_some, l2, ob_some, m_whole p2, r6, if_neg h6, ob_some, if_neg Bool.false_ne_true, m_of6 p2, ob_some, r6, if_neg h61, u3, ob_some, u4.1, u4.2.1]
  · right
    simp only [p5, p6, ob_some, b2i_f, fails_f t0 n1_0, tt_t, if_true, if_false, z1_t, true_and]
    exact ⟨100, _, _, rfl, thr0 1, I0⟩
end FORMAT
