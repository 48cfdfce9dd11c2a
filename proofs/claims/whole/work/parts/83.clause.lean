/-! LOAD 1: the clauses of a text -/
abbrev Z0 : Nat → Int64 := fun _ => 0
def RWf (R : RowS) (M : RowS) : Prop := wfN (M.1 1) ∧ Rel R (M.1 1) Z0 ∧ M.2 5 = Z0
def ZM (M : RowS) : Prop := ZB (M.1 1) (M.2 5)
def MG (M M' : RowS) : Prop := (∀ c, c ≠ 0 → c ≠ 1 → M'.1 c = M.1 c) ∧ (∀ c, c ≠ 0 → c ≠ 5 → M'.2 c = M.2 c) ∧ ∀ k, k ≠ 14 → k ≠ 15 → k ≠ 16 → k ≠ 17 → k ≠ 19 → k ≠ 20 → M'.1 0 k = M.1 0 k
def RO (e m : Nat) (G : GlbS) (M : RowS) (G' : GlbS) (M' : RowS) (R' : RowS) : Prop := GF G G' ∧ MG M M' ∧ TT e m G' M' ∧ ZM M' ∧ (M'.1 0 19 = 0 → M.1 0 19 = 0 ∧ RWf R' M')
theorem mf_g {M M' : RowS} (h : MF M M') : MG M M' := ⟨fun c h0 _ => h.1 c h0, fun c h0 _ => h.2.1 c h0, h.2.2⟩
theorem mg_t {A B C : RowS} (h : MG A B) (k : MG B C) : MG A C := ⟨fun c h1 h2 => (k.1 c h1 h2).trans (h.1 c h1 h2), fun c h1 h2 => (k.2.1 c h1 h2).trans (h.2.1 c h1 h2), fun c h1 h2 h3 h4 h5 h6 => (k.2.2 c h1 h2 h3 h4 h5 h6).trans (h.2.2 c h1 h2 h3 h4 h5 h6)⟩
theorem mg_mk {M : RowS} {N : Nat → Int32} {S : Nat → Int64} : MG M (mk M N S) := ⟨fun c _ h1 => mk_1n h1, fun c _ h1 => mk_2n h1, fun k _ _ _ _ _ _ => by rw [mk_1n (by decide)]⟩
theorem tt_mk {e m : Nat} {G : GlbS} {M : RowS} {N : Nat → Int32} {S : Nat → Int64} (h : TT e m G M) : TT e m G (mk M N S) := h
theorem zm_mf {M M' : RowS} (z : ZM M) (h : MF M M') : ZM M' := by unfold ZM; rw [h.1 1 (by decide), h.2.1 5 (by decide)]; exact z
theorem liq_si {R : RowS} {c : Nat} {a b d : Int32} : stL R c (f_X1_liquid (R.1 c, R.2 c) a b d) = si (si (si R c 0 a) c 1 b) c 2 d := by
  unfold stL f_X1_liquid si
  simp only [lt, va_up_self, up_up, up_self]
theorem leg_wf {N : Nat → Int32} (h : wfN N) {j : Nat} (hj : j < 2) {k : Nat} (hk : k < 3) {v : Int32} (h0 : k = 0 → bd v 100 20000) (h1 : k = 1 → bd v 100 99999) (h2 : k = 2 → bd v (-9999) 9999) : wfN (va_up N (12 + 3 * j + k) v) :=
  wf_cell h (by omega) (fun q => by omega) (fun p hp q => by omega) (fun j' hj' => ⟨fun q => h0 (by omega), fun q => h1 (by omega), fun q => h2 (by omega)⟩) (fun t ht => ⟨by omega, by omega, fun q => by omega, fun q => by omega, fun q => by omega, fun q => by omega, fun q => by omega⟩)
theorem leg_rel {R : RowS} {N : Nat → Int32} {S : Nat → Int64} (h : wfN N) (r : Rel R N S) {j k : Nat} (hj : j < 2) (hk : k < 3) {v : Int32} : Rel (si R (j + 2) k v) (va_up N (12 + 3 * j + k) v) S :=
  rel_cell h r (by omega) (fun k hk => by omega) (fun q hq => by omega) (fun j hj k hk => by omega) (fun t ht k hk => by omega)
section CLAUSE
variable {e m : Nat} {G G1 : GlbS} {M M1 : RowS} {R : RowS}
theorem cl_leg (a : f_X5_advance 1000 G = some G1) (h : TT e m G1 M1) (w : RWf R M1) (z : ZM M1) : ∃ R' G' M2, f_X4_readLeg 1000 R G = some (R', G') ∧ f_X8_readsLeg 1000 M1 = some M2 ∧ RO e m G1 M1 G' M2 R' := by
  obtain ⟨v1, w1, G2, M2, c1, d1, o1, b1, b1', q1⟩ := t_num (lo := 0) (hi := 1) (by decide) h
  obtain ⟨v2, w2, G3, M3, c2, d2, o2, b2, b2', q2⟩ := t_num (lo := 100) (hi := 20000) (by decide) o1.2.2.1
  obtain ⟨v3, w3, G4, M4, c3, d3, o3, b3, b3', q3⟩ := t_num (lo := 100) (hi := 99999) (by decide) o2.2.2.1
  obtain ⟨v4, w4, G5, M5, c4, d4, o4, b4, b4', q4⟩ := t_signed o3.2.2.1
  have o12 := to_t o1 o2
  have o13 := to_t o12 o3
  have o14 := to_t o13 o4
  have b1 : bd v1 0 1 := b1
  have b2 : bd v2 100 20000 := b2
  have b3 : bd v3 100 99999 := b3
  have zz := zm_mf z o14.2.1
  unfold f_X4_readLeg f_X8_readsLeg
  simp only [a, ob_some, lt, c1, c2, c3, c4, d1, d2, d3, d4]
  by_cases hg : M5.1 0 19 = 0
  · have g3 := o4.2.2.2 hg
    have g2 := o3.2.2.2 g3
    have g1 := o2.2.2.2 g2
    have y1 := q1 g1
    have y2 := q2 g2
    have y3 := q3 g3
    have y4 := q4 hg
    subst y1 y2 y3 y4
    obtain ⟨j, hj, ej⟩ : ∃ j : Nat, j < 2 ∧ v1 = nI j := ⟨v1.toInt.toNat, by unfold bd at b1; omega, gI_of (by unfold bd at b1; omega)⟩
    subst ej
    have e1 : M5.1 1 = M1.1 1 := o14.2.1.1 1 (by decide)
    have e5 : M5.2 5 = M1.2 5 := o14.2.1.2.1 5 (by decide)
    have ml := m_layleg (M := M5) (N := M5.1 1) (S := M5.2 5) hj v2 v3 v4
    rw [mk_id] at ml
    have W1 := leg_wf (N := M5.1 1) (by rw [e1]; exact w.1) hj (k := 0) (by decide) (fun _ => b2) (fun q => by omega) (fun q => by omega)
    have W2 := leg_wf W1 hj (k := 1) (by decide) (fun q => by omega) (fun _ => b3) (fun q => by omega)
    have W3 := leg_wf W2 hj (k := 2) (by decide) (fun q => by omega) (fun q => by omega) (fun _ => b4)
    have r0 : Rel R (M5.1 1) Z0 := by rw [e1]; exact w.2.1
    have r1 := leg_rel (N := M5.1 1) (by rw [e1]; exact w.1) r0 hj (k := 0) (by decide) (v := v2)
    have r2 := leg_rel W1 r1 hj (k := 1) (by decide) (v := v3)
    have r3 := leg_rel W2 r2 hj (k := 2) (by decide) (v := v4)
    refine ⟨_, G5, mk M5 (va_up (va_up (va_up (M5.1 1) (12 + 3 * j + 0) v2) (12 + 3 * j + 1) v3) (12 + 3 * j + 2) v4) (M5.2 5), rfl, ?_, o14.1, mg_t (mf_g o14.2.1) mg_mk, tt_mk o14.2.2.1, ?_, fun _ => ⟨o14.2.2.2 hg, ?_⟩⟩
    · rw [good_t hg, if_pos rfl, ml, ob_some]
    · unfold ZM
      rw [mk_1, mk_2]
      exact zb_cell (zb_cell (zb_cell zz (by omega)) (by omega)) (by omega)
    · unfold RWf
      rw [mk_1, mk_2, c_legAt hj, liq_si]
      exact ⟨W3, r3, by rw [e5]; exact w.2.2⟩
  · refine ⟨_, G5, M5, rfl, ?_, o14.1, mf_g o14.2.1, o14.2.2.1, zz, fun q => absurd q hg⟩
    rw [good_f hg, if_neg (by decide)]
def PX (n : Nat) (R : RowS) (G : GlbS) : Option (RowS × GlbS) :=
  ob (f_X5_takeNumber n G 0 ((R.1 0 0) - 1)) fun x7 =>
  lt (x7.2) fun Gv8 =>
  lt (x7.1) fun x9 =>
  ob (f_X5_takeNumber n Gv8 0 99999) fun x10 =>
  lt (x10.2) fun Gv11 =>
  lt (f_X3_press R x9 x10.1) fun x12 =>
  lt (x12) fun Rv13 =>
  some (Rv13, Gv11)
theorem hi_pt {N : Nat → Int32} (h : wfN N) : (N 0 - 1).toInt = (N 0).toInt - 1 ∧ (0 : Int32).toInt ≤ (N 0 - 1).toInt := by
  have h0 := h.1
  unfold bd at h0
  have e : (N 0 - 1).toInt = (N 0).toInt - 1 := i32_sub (by rw [show (1 : Int32).toInt = 1 from rfl]; omega)
  have : (0 : Int32).toInt = 0 := rfl
  exact ⟨e, by omega⟩
theorem cl_press (h : TT e m G1 M1) (w : RWf R M1) (z : ZM M1) : ∃ R' G' M2, PX 1000 R G1 = some (R', G') ∧ f_X8_readsPressure 1000 M1 = some M2 ∧ RO e m G1 M1 G' M2 R' := by
  obtain ⟨hp1, hp2⟩ := hi_pt w.1
  obtain ⟨v1, w1, G2, M2, c1, d1, o1, b1, b1', q1⟩ := t_num (lo := 0) (hi := M1.1 1 0 - 1) hp2 h
  obtain ⟨v2, w2, G3, M3, c2, d2, o2, b2, b2', q2⟩ := t_num (lo := 0) (hi := 99999) (by decide) o1.2.2.1
  have o12 := to_t o1 o2
  have b1 : bd v1 0 (M1.1 1 0 - 1).toInt := b1
  rw [hp1] at b1
  have b2 : bd v2 0 99999 := b2
  have zz := zm_mf z o12.2.1
  have e0 : (0 : Int32).toNatClampNeg = 0 := rfl
  unfold PX f_X8_readsPressure
  rw [w.2.1.1, if_pos (by decide), e0]
  simp only [ob_some, lt, c1, c2, d1, d2]
  by_cases hg : M3.1 0 19 = 0
  · have g1 := o2.2.2.2 hg
    have y1 := q1 g1
    have y2 := q2 hg
    subst y1 y2
    have hN := w.1.1
    obtain ⟨p, hp, ep⟩ : ∃ p : Nat, p < 8 ∧ v1 = nI p := ⟨v1.toInt.toNat, by unfold bd at b1 hN; omega, gI_of (by unfold bd at b1; omega)⟩
    subst ep
    have e1 : M3.1 1 = M1.1 1 := o12.2.1.1 1 (by decide)
    have e5 : M3.2 5 = M1.2 5 := o12.2.1.2.1 5 (by decide)
    have e4 : (4 : Int32) + nI p = nI (4 + p) := by rw [show (4 : Int32) = nI 4 from rfl, nI_add]
    refine ⟨_, G3, mk M3 (va_up (M3.1 1) (4 + p) v2) (M3.2 5), rfl, ?_, o12.1, mg_t (mf_g o12.2.1) mg_mk, tt_mk o12.2.2.1, ?_, fun _ => ⟨o12.2.2.2 hg, ?_⟩⟩
    · rw [good_t hg, if_pos rfl, e4, if_pos (by rw [nI_toInt (by omega)]; omega), nI_clamp (by omega), si_mk]
    · unfold ZM
      rw [mk_1, mk_2]
      exact zb_cell zz (by omega)
    · unfold RWf
      rw [mk_1, mk_2, c_presses hp, e1, e5]
      exact ⟨press_wf w.1 hp b2, press_rel w.1 w.2.1 hp, w.2.2⟩
  · refine ⟨_, G3, M3, rfl, ?_, o12.1, mf_g o12.2.1, o12.2.2.1, zz, fun q => absurd q hg⟩
    rw [good_f hg, if_neg (by decide)]
end CLAUSE
