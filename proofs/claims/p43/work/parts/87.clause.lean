/-! CLAUSES of a text that is known -/
abbrev Zq : Nat → Int64 := fun _ => 0
def RS (R : RowS) (N : Nat → Int32) : Prop := wfN N ∧ Rel R N Zq
theorem z_leg : zl 4 = zl 10 ∧ zl 5 = zl 13 ∧ zl 6 = zl 11 ∧ zl 7 = [32] ++ zl 12 ∧ zl 0 = zl 9 ∧ zl 3 = [59] := by decide +kernel
theorem z_num : (zl 4).length = 3 ∧ (zl 5).length = 8 ∧ (zl 6).length = 4 ∧ (zl 10).length = 3 ∧ (zl 11).length = 4 ∧ (zl 12).length = 4 ∧ (zl 0).length = 6 ∧ (zl 7).length = 5 := by decide +kernel
theorem z_let : (∀ j, j < 3 → 97 ≤ (zl 4).getD j 0 ∧ (zl 4).getD j 0 ≤ 122) ∧ (∀ j, j < 8 → 97 ≤ (zl 5).getD j 0 ∧ (zl 5).getD j 0 ≤ 122) ∧ (∀ j, j < 4 → 97 ≤ (zl 6).getD j 0 ∧ (zl 6).getD j 0 ≤ 122) ∧ (∀ j, j < 4 → 97 ≤ (zl 12).getD j 0 ∧ (zl 12).getD j 0 ≤ 122) ∧ (∀ j, j < 6 → 97 ≤ (zl 0).getD j 0 ∧ (zl 0).getD j 0 ≤ 122) := by decide +kernel
theorem nat_back {v : Int32} (h : 0 ≤ v.toInt) : nI v.toInt.toNat = v := (gI_of (by omega)).symm
theorem num_ok {lo hi v : Int32} {a b : Int} (hv : bd v a b) (h0 : 0 ≤ a) (h1 : lo.toInt = a) (h2 : hi.toInt = b) : nI v.toInt.toNat = v ∧ ¬ nI v.toInt.toNat < lo ∧ nI v.toInt.toNat ≤ hi := by
  unfold bd at hv
  have e := nat_back (v := v) (by omega)
  rw [e, i32_lt, i32_le]
  exact ⟨rfl, by omega, by omega⟩
section CLAUSE
variable {G : GlbS} {R : RowS} {N : Nat → Int32} {l : List Nat}
theorem cl_leg {j : Nat} {d a c : Int32} (hj : j < 2) (hd : bd d 100 20000) (ha : bd a 100 99999) (hc : bd c (-9999) 9999) (h : Wd G (zl 4) (spd (nI j).toInt ++ (spd d.toInt ++ (spd a.toInt ++ (spd c.toInt ++ ([59] ++ l)))))) (w : RS R N) : ∃ R' N' G', f_X4_readClause 200 R G = some (R', G') ∧ Sn G' 59 l ∧ GF G G' ∧ RS R' N' ∧ N' 0 = N 0 ∧ cnt N' = cnt N := by
  have bj : bd (nI j) 0 1 := by unfold bd; rw [nI_toInt (by omega)]; omega
  have hd' := hd
  have ha' := ha
  have hc' := hc
  unfold bd at hd' ha' hc'
  obtain ⟨n1, n2, n3⟩ := num_ok (lo := 0) (hi := 1) bj (by decide) rfl rfl
  obtain ⟨m1, m2, m3⟩ := num_ok (lo := 100) (hi := 20000) hd (by decide) rfl rfl
  obtain ⟨o1, o2, o3⟩ := num_ok (lo := 100) (hi := 99999) ha (by decide) rfl rfl
  obtain ⟨G1, a1, b1, c1⟩ := ad_num (v := (nI j).toInt) (by unfold bd at bj; omega) (by unfold bd at bj; omega) nod_spd G (wd_lx h)
  obtain ⟨G2, a2, b2, c2⟩ := tk_num b1 n2 n3 (ad_num (v := d.toInt) (by omega) (by omega) nod_spd)
  obtain ⟨G3, a3, b3, c3⟩ := tk_num b2 m2 m3 (ad_num (v := a.toInt) (by omega) (by omega) nod_spd)
  obtain ⟨G4, a4, b4, c4⟩ := tk_num b3 o2 o3 (ad_sd (v := c.toInt) hc' nod_59)
  obtain ⟨G5, a5, b5, c5⟩ := tk_signed hc b4 nod_59 ad_semi
  rw [n1] at a2
  rw [m1] at a3
  rw [o1] at a4
  have W1 := leg_wf w.1 hj (k := 0) (by decide) (fun _ => hd) (fun q => by omega) (fun q => by omega)
  have W2 := leg_wf W1 hj (k := 1) (by decide) (fun q => by omega) (fun _ => ha) (fun q => by omega)
  have W3 := leg_wf W2 hj (k := 2) (by decide) (fun q => by omega) (fun q => by omega) (fun _ => hc)
  have r1 := leg_rel w.1 w.2 hj (k := 0) (by decide) (v := d)
  have r2 := leg_rel W1 r1 hj (k := 1) (by decide) (v := a)
  have r3 := leg_rel W2 r2 hj (k := 2) (by decide) (v := c)
  refine ⟨_, _, G5, ?_, b5, gf_t c1 (gf_t c2 (gf_t c3 (gf_t c4 c5))), ⟨W3, r3⟩, ?_, ?_⟩
  · unfold f_X4_readClause
    rw [isw_yes (by decide) z_leg.1 h, ob_some, if_pos rfl]
    unfold f_X4_readLeg
    rw [a1, ob_some, lt_eq, a2, ob_some]
    simp only [lt, c_legAt hj, a3, a4, a5, ob_some, liq_si]
  · rw [va_up_ne _ _ (by omega), va_up_ne _ _ (by omega), va_up_ne _ _ (by omega)]
  · rw [cnt_up (by omega), cnt_up (by omega), cnt_up (by omega)]
theorem cl_press {p pts : Nat} {v : Int32} (hN : N 0 = nI pts) (hpt : pts ≤ 8) (hp : p < pts) (hv : bd v 0 99999) (h : Wd G (zl 5) (spd (nI p).toInt ++ (spd v.toInt ++ ([59] ++ l)))) (w : RS R N) : ∃ R' N' G', f_X4_readClause 200 R G = some (R', G') ∧ Sn G' 59 l ∧ GF G G' ∧ RS R' N' ∧ N' 0 = N 0 ∧ cnt N' = cnt N := by
  have hv' := hv
  unfold bd at hv'
  have tp : (nI p).toInt = (p : Int) := nI_toInt (by omega)
  have n1 : nI (nI p).toInt.toNat = nI p := nat_back (by omega)
  obtain ⟨m1, m2, m3⟩ := num_ok (lo := 0) (hi := 99999) hv (by decide) rfl rfl
  obtain ⟨G1, a1, b1, c1⟩ := tk_word (i := 13) (by decide) z_leg.2.1 h (ad_num (v := (nI p).toInt) (by omega) (by omega) nod_spd)
  have hle : nI (nI p).toInt.toNat ≤ R.1 0 0 - 1 := by
    rw [n1, w.2.1, i32_le, (hi_pt w.1).1, hN, tp, nI_toInt (by omega)]
    omega
  obtain ⟨G2, a2, b2, c2⟩ := tk_num (lo := 0) b1 (by rw [n1]; exact nI_pos (by omega)) hle (ad_num (v := v.toInt) (by omega) (by omega) nod_59)
  obtain ⟨G3, a3, b3, c3⟩ := tk_num b2 m2 m3 ad_semi
  rw [n1] at a2
  rw [m1] at a3
  refine ⟨_, _, G3, ?_, b3, gf_t c1 (gf_t c2 c3), ⟨press_wf w.1 (by omega) hv, press_rel w.1 w.2 (p := p) (v := v) (by omega)⟩, ?_, ?_⟩
  · unfold f_X4_readClause
    rw [isw_len (i := 10) (by decide) h (by rw [z_num.2.1, z_num.2.2.2.1]; decide), ob_some, if_neg (by decide), isw_len (i := 11) (by decide) h (by rw [z_num.2.1, z_num.2.2.2.2.1]; decide), ob_some, if_neg (by decide), a1, ob_some, lt_eq, a2, ob_some, lt_eq, lt_eq, a3, ob_some]
    simp only [lt, c_presses (show p < 8 by omega)]
  · rw [va_up_ne _ _ (by omega)]
  · rw [cnt_up (by omega)]
/-- the end of a tube's clause -/
def TP (R : RowS) (t : Nat) (G : GlbS) : Option (RowS × GlbS) :=
  ob (f_X5_isWord 200 G 12) fun x24 =>
  if x24 = true then
    ob (f_X5_advance 200 G) fun x26 =>
    lt (x26) fun Gv27 =>
    ob (f_X5_takeSigned 200 Gv27) fun x28 =>
    lt (x28.2) fun Gv29 =>
    lt (si R (t + 5) 5 x28.1) fun Rv30 =>
    some (Rv30, Gv29)
  else
    some (R, G)
theorem cl_tube {pts j p : Nat} {b s e : Int32} {rest : List Nat} {Q : GlbS → Prop} (hN : N 0 = nI pts) (hpt : pts ≤ 8) (hp : p < pts) (hq : cnt N < 12) (hj : j < 2) (hb : bd b 1 20) (hs : bd s 50 1000) (he : bd e 10 2000) (hr : noDig rest) (A : Ad rest Q) (fin : ∀ G6, Q G6 → ∀ R6, ∃ R' G', TP R6 (cnt N) G6 = some (R', G') ∧ Sn G' 59 l ∧ GF G6 G' ∧ (R' = R6 ∨ ∃ f, bd f (-9999) 9999 ∧ R' = si R6 (cnt N + 5) 5 f)) (h : Wd G (zl 6) (spd (nI j).toInt ++ (spd (nI p).toInt ++ (spd b.toInt ++ (spd s.toInt ++ (spd e.toInt ++ rest)))))) (w : RS R N) : ∃ R' N' G', f_X4_readClause 200 R G = some (R', G') ∧ Sn G' 59 l ∧ GF G G' ∧ RS R' N' ∧ N' 0 = N 0 ∧ cnt N' = cnt N + 1 := by
  have hb' := hb
  have hs' := hs
  have he' := he
  unfold bd at hb' hs' he'
  have bj : bd (nI j) 0 1 := by unfold bd; rw [nI_toInt (by omega)]; omega
  have bj' := bj
  unfold bd at bj'
  have tp : (nI p).toInt = (p : Int) := nI_toInt (by omega)
  have p1 : nI (nI p).toInt.toNat = nI p := nat_back (by omega)
  obtain ⟨n1, n2_, n3⟩ := num_ok (lo := 0) (hi := 1) bj (by decide) rfl rfl
  obtain ⟨m1, m2, m3⟩ := num_ok (lo := 1) (hi := 20) hb (by decide) rfl rfl
  obtain ⟨o1, o2, o3⟩ := num_ok (lo := 50) (hi := 1000) hs (by decide) rfl rfl
  obtain ⟨q1, q2, q3⟩ := num_ok (lo := 10) (hi := 2000) he (by decide) rfl rfl
  obtain ⟨G1, a1, b1, c1⟩ := ad_num (v := (nI j).toInt) (by omega) (by omega) nod_spd G (wd_lx h)
  obtain ⟨G2, a2, b2, c2⟩ := tk_num b1 n2_ n3 (ad_num (v := (nI p).toInt) (by omega) (by omega) nod_spd)
  have hle : nI (nI p).toInt.toNat ≤ N 0 - 1 := by
    rw [p1, i32_le, (hi_pt w.1).1, hN, tp, nI_toInt (by omega)]
    omega
  obtain ⟨G3, a3, b3, c3⟩ := tk_num (lo := 0) b2 (by rw [p1]; exact nI_pos (by omega)) hle (ad_num (v := b.toInt) (by omega) (by omega) nod_spd)
  obtain ⟨G4, a4, b4, c4⟩ := tk_num b3 m2 m3 (ad_num (v := s.toInt) (by omega) (by omega) nod_spd)
  obtain ⟨G5, a5, b5, c5⟩ := tk_num b4 o2 o3 (ad_num (v := e.toInt) (by omega) (by omega) hr)
  obtain ⟨G6, a6, b6, c6⟩ := tk_num b5 q2 q3 A
  rw [n1] at a2
  rw [p1] at a3
  rw [m1] at a4
  rw [o1] at a5
  rw [q1] at a6
  obtain ⟨R', G', f1, f2, f3, f4⟩ := fin G6 b6 (addR R (cnt N) (nI j) (nI p) b s e)
  have wfA : ∀ {f : Int32}, bd f (-9999) 9999 → wfN (addN N (cnt N) (nI j) (nI p) b s e f) := fun hf => addN_wf w.1 hq bj (by rw [tp, hN, nI_toInt (by omega)]; omega) hb hs he hf
  have rA : Rel (addR R (cnt N) (nI j) (nI p) b s e) (addN N (cnt N) (nI j) (nI p) b s e 0) Zq := addR_rel w.1 w.2 hq
  have h0 : bd (0 : Int32) (-9999) 9999 := by unfold bd; decide
  have hc : f_X4_readClause 200 R G = some (R', G') := by
    have ap : f_X3_append R = (cnt N, si R 0 2 (nI (cnt N + 1))) := by
      unfold f_X3_append
      rw [w.2.2.2.1, n2 w.1, show (12 : Int32) = nI 12 from rfl, if_pos (nI_lt hq (by omega)), nI_1, lt_eq, si_at, nI_pred, c_tubeAt (by omega)]
      rfl
    have r0 : (si R 0 2 (nI (cnt N + 1))).1 0 0 = N 0 := by rw [si_ne (Or.inr (by decide))]; exact w.2.1
    unfold f_X4_readClause
    rw [isw_len (i := 10) (by decide) h (by rw [z_num.2.2.1, z_num.2.2.2.1]; decide), ob_some, if_neg (by decide), isw_yes (by decide) z_leg.2.2.1 h, ob_some, if_pos rfl]
    unfold f_X4_readTube
    rw [w.2.2.2.1, n2 w.1, show (12 : Int32) = nI 12 from rfl, if_pos (nI_lt hq (by omega)), a1, ob_some]
    simp only [lt, ap, a2, ob_some, r0, a3, a4, a5, a6, stT_1]
    have hA : stT (stT (si R 0 2 (nI (cnt N + 1))) (cnt N + 5) (f_X6_stand ((si R 0 2 (nI (cnt N + 1))).1 (cnt N + 5)) (nI j) (nI p))) (cnt N + 5) (f_X6_shape (f_X6_stand ((si R 0 2 (nI (cnt N + 1))).1 (cnt N + 5)) (nI j) (nI p)) b s e) = addR R (cnt N) (nI j) (nI p) b s e := rfl
    rw [hA]
    unfold TP at f1
    simp only [lt] at f1
    rw [f1, ob_some]
  have gf := gf_t c1 (gf_t c2 (gf_t c3 (gf_t c4 (gf_t c5 (gf_t c6 f3)))))
  rcases f4 with f4 | ⟨f, hf, f4⟩
  · subst f4
    exact ⟨_, addN N (cnt N) (nI j) (nI p) b s e 0, G', hc, f2, gf, ⟨wfA h0, rA⟩, addN_no (by omega) (by omega), addN_cnt hq⟩
  · subst f4
    refine ⟨_, addN N (cnt N) (nI j) (nI p) b s e f, G', hc, f2, gf, ⟨wfA hf, ?_⟩, addN_no (by omega) (by omega), addN_cnt hq⟩
    have := mark_rel (wfA h0) rA (t := cnt N) (by omega) (v := f)
    rw [add_mark] at this
    exact this
theorem tp_none {t : Nat} (h : Sn G 59 l) : ∀ R6, ∃ R' G', TP R6 t G = some (R', G') ∧ Sn G' 59 l ∧ GF G G' ∧ (R' = R6 ∨ ∃ f, bd f (-9999) 9999 ∧ R' = si R6 (t + 5) 5 f) := by
  intro R6
  refine ⟨R6, G, ?_, h, gf_r, Or.inl rfl⟩
  obtain ⟨q, -, k, -⟩ := h
  unfold TP
  rw [isw_no (by rw [k]; decide), ob_some, if_neg (by decide)]
theorem tp_mark {t : Nat} {m : Int32} (hm : bd m (-9999) 9999) (h : Wd G (zl 12) (spd m.toInt ++ ([59] ++ l))) : ∀ R6, ∃ R' G', TP R6 t G = some (R', G') ∧ Sn G' 59 l ∧ GF G G' ∧ (R' = R6 ∨ ∃ f, bd f (-9999) 9999 ∧ R' = si R6 (t + 5) 5 f) := by
  intro R6
  have hm' := hm
  unfold bd at hm'
  obtain ⟨G1, a1, b1, c1⟩ := ad_sd (v := m.toInt) hm' nod_59 G (wd_lx h)
  obtain ⟨G2, a2, b2, c2⟩ := tk_signed hm b1 nod_59 ad_semi
  refine ⟨si R6 (t + 5) 5 m, G2, ?_, b2, gf_t c1 c2, Or.inr ⟨m, hm, rfl⟩⟩
  unfold TP
  rw [isw_yes (by decide) rfl h, ob_some, if_pos rfl, a1, ob_some, lt_eq, a2, ob_some]
  rfl
theorem ad_mark {m : Int32} : Ad (zl 7 ++ (spd m.toInt ++ ([59] ++ l))) (fun G => Wd G (zl 12) (spd m.toInt ++ ([59] ++ l))) := by
  intro G h
  rw [z_leg.2.2.2.1, List.append_assoc] at h
  refine to_word (sp := 1) (Nat.le_refl _) h (by rw [z_num.2.2.2.2.2.1]; decide) (by rw [z_num.2.2.2.2.2.1]; decide) (by rw [z_num.2.2.2.2.2.1]; exact z_let.2.2.2.1) (Or.inr ?_)
  unfold spd
  split
  · exact fun h => by have : 97 ≤ 32 := h.1; omega
  · exact fun h => by have : 97 ≤ 32 := h.1; omega
end CLAUSE
