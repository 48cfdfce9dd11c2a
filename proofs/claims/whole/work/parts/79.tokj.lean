/-! TOKENS 3: class and model at the same token -/
theorem by_all : ∀ n : Fin 256, ((nI n.val).toInt8.toInt32 = nI n.val ∧ n.val ≤ 127) ∨ (128 ≤ n.val ∧ ((nI n.val).toInt8.toInt32).toInt < 0) := by decide +kernel
theorem by_one {x : Int32} (h : bd x 0 255) : (x.toInt8.toInt32 = x ∧ x.toInt ≤ 127) ∨ (128 ≤ x.toInt ∧ (x.toInt8.toInt32).toInt < 0) := by
  unfold bd at h
  obtain ⟨n, hn, e⟩ : ∃ n : Nat, n < 256 ∧ x = nI n := ⟨x.toInt.toNat, by omega, gI_of (by omega)⟩
  have a := by_all ⟨n, hn⟩
  have t : (nI n).toInt = (n : Int) := nI_toInt (by omega)
  rw [e, t]
  rcases a with ⟨a, b⟩ | ⟨a, b⟩
  · exact Or.inl ⟨a, by have b : n ≤ 127 := b; omega⟩
  · exact Or.inr ⟨by have a : 128 ≤ n := a; omega, b⟩
theorem by_eq {x a : Int32} (h : bd x 0 255) (ha : bd a 0 127) : x.toInt8.toInt32 = a ↔ x = a := by
  unfold bd at ha
  rcases by_one h with ⟨p, q⟩ | ⟨p, q⟩
  · rw [p]
  · constructor
    · intro z; rw [z] at q; omega
    · intro z; rw [z] at p; omega
theorem by_ws {x : Int32} (h : bd x 0 255) : wsP (x.toInt8.toInt32) ↔ wsP x := by
  unfold wsP
  rw [by_eq h (by unfold bd; decide), by_eq h (by unfold bd; decide)]
theorem let_f {x : Int32} (h : x.toInt < 97 ∨ 122 < x.toInt) : ¬ f_X5_isLetter x = true := fun z => by
  have := letter_v (x := x) z
  omega
theorem fig_f {x : Int32} (h : x.toInt < 48 ∨ 57 < x.toInt) : ¬ f_X5_isDigit x = true := fun z => by
  have := digit_v z
  omega
theorem by_let {x : Int32} (h : bd x 0 255) : f_X5_isLetter (x.toInt8.toInt32) = true ↔ f_X8_isLetter x = true := by
  rw [let_eq]
  rcases by_one h with ⟨p, q⟩ | ⟨p, q⟩
  · rw [p]
  · exact ⟨fun z => absurd z (let_f (by omega)), fun z => absurd z (let_f (by omega))⟩
theorem by_fig {x : Int32} (h : bd x 0 255) : f_X5_isDigit (x.toInt8.toInt32) = true ↔ f_X8_isFigure x = true := by
  rw [fig_eq]
  rcases by_one h with ⟨p, q⟩ | ⟨p, q⟩
  · rw [p]
  · exact ⟨fun z => absurd z (fig_f (by omega)), fun z => absurd z (fig_f (by omega))⟩
theorem by_fig_v {x : Int32} (h : bd x 0 255) (hf : f_X8_isFigure x = true) : x.toInt8.toInt32 = x := by
  rcases by_one h with ⟨p, q⟩ | ⟨p, q⟩
  · exact p
  · exact absurd hf (fig_f (by omega))
def CP (e s p : Nat) (G : GlbS) : Prop := G 3 2 = nI e ∧ G 3 3 = nI p ∧ G 3 4 = nI s ∧ s ≤ p ∧ p ≤ e ∧ e ≤ 600
def BY (e : Nat) (G : GlbS) (M : RowS) : Prop := ∀ k, k < e → bd (M.1 11 k) 0 255 ∧ G 4 k = (M.1 11 k).toInt8.toInt32
def KD (e s p : Nat) (G : GlbS) (M : RowS) : Prop :=
  (G 3 5 = 0 ∧ M.1 0 16 = 0 ∧ s = e) ∨
  (G 3 5 = 1 ∧ M.1 0 16 = 1 ∧ s < p ∧ (∀ k, s ≤ k → k < p → f_X8_isLetter (M.1 11 k) = true) ∧ M.2 0 18 = lN (hN (fun i => (M.1 11 (s + i)).toInt.toNat - 96) (min (p - s) 10))) ∨
  (G 3 5 = 2 ∧ M.1 0 16 = 2 ∧ s < p ∧ ∃ v, v < 100000000 ∧ G 3 6 = nI v ∧ M.1 0 17 = nI v) ∨
  (G 3 5 = 3 ∧ M.1 0 16 = 3 ∧ s < p)
def TS (e s p : Nat) (G : GlbS) (M : RowS) : Prop := CP e s p G ∧ (G 3 7 = 0 ∧ M.1 0 19 = 0 ∧ G 3 8 = -1 ∧ M.1 0 20 = -1) ∧ (M.1 0 13 = nI e ∧ M.1 0 14 = nI p ∧ M.1 0 15 = nI s) ∧ BY e G M ∧ KD e s p G M
def GF (G G' : GlbS) : Prop := (∀ c, c ≠ 3 → G' c = G c) ∧ ∀ k, k < 3 → G' 3 k = G 3 k
def MF (M M' : RowS) : Prop := (∀ c, c ≠ 0 → M'.1 c = M.1 c) ∧ (∀ c, c ≠ 0 → M'.2 c = M.2 c) ∧ ∀ k, k ≠ 14 → k ≠ 15 → k ≠ 16 → k ≠ 17 → k ≠ 19 → k ≠ 20 → M'.1 0 k = M.1 0 k
def CX (e : Nat) (G G' : GlbS) : Prop := GF G G' ∧ G' 3 7 = G 3 7 ∧ G' 3 8 = G 3 8 ∧ ∃ s p, CP e s p G'
def TX (e : Nat) (G : GlbS) (M : RowS) : Prop := (∃ s p, CP e s p G) ∧ ¬ G 3 7 = 0 ∧ M.1 0 19 = G 3 7 ∧ G 3 8 = M.1 0 20
def TT (e m : Nat) (G : GlbS) (M : RowS) : Prop := (∃ s p, m ≤ s ∧ TS e s p G M) ∨ TX e G M
def TO (e m : Nat) (G : GlbS) (M : RowS) (G' : GlbS) (M' : RowS) : Prop := GF G G' ∧ MF M M' ∧ TT e m G' M' ∧ (M'.1 0 19 = 0 → M.1 0 19 = 0)
theorem gf_r {G : GlbS} : GF G G := ⟨fun _ _ => rfl, fun _ _ => rfl⟩
theorem mf_r {M : RowS} : MF M M := ⟨fun _ _ => rfl, fun _ _ => rfl, fun _ _ _ _ _ _ _ => rfl⟩
theorem gf_t {A B C : GlbS} (h : GF A B) (k : GF B C) : GF A C := ⟨fun c hc => (k.1 c hc).trans (h.1 c hc), fun c hc => (k.2 c hc).trans (h.2 c hc)⟩
theorem mf_t {A B C : RowS} (h : MF A B) (k : MF B C) : MF A C := ⟨fun c hc => (k.1 c hc).trans (h.1 c hc), fun c hc => (k.2.1 c hc).trans (h.2.1 c hc), fun c h1 h2 h3 h4 h5 h6 => (k.2.2 c h1 h2 h3 h4 h5 h6).trans (h.2.2 c h1 h2 h3 h4 h5 h6)⟩
theorem cx_t {e : Nat} {A B C : GlbS} (h : CX e A B) (k : CX e B C) : CX e A C := ⟨gf_t h.1 k.1, k.2.1.trans h.2.1, k.2.2.1.trans h.2.2.1, k.2.2.2⟩
theorem tt_le {e m m' : Nat} {G : GlbS} {M : RowS} (h : TT e m G M) (hm : m' ≤ m) : TT e m' G M := by
  rcases h with ⟨s, p, a, b⟩ | h
  · exact Or.inl ⟨s, p, by omega, b⟩
  · exact Or.inr h
theorem to_t {e m m' : Nat} {A B C : GlbS} {L M N : RowS} (h : TO e m A L B M) (k : TO e m' B M C N) : TO e m' A L C N := ⟨gf_t h.1 k.1, mf_t h.2.1 k.2.1, k.2.2.1, fun z => h.2.2.2 (k.2.2.2 z)⟩
theorem ts_19 {e m s p : Nat} {G : GlbS} {M : RowS} (h : TS e s p G M) : M.1 0 19 = 0 := h.2.1.2.1
theorem tx_19 {e : Nat} {G : GlbS} {M : RowS} (h : TX e G M) : ¬ M.1 0 19 = 0 := by rw [h.2.2.1]; exact h.2.1
theorem tx_cx {e : Nat} {G G' : GlbS} {M : RowS} (h : TX e G M) (k : CX e G G') : TX e G' M := ⟨k.2.2.2, by rw [k.2.1]; exact h.2.1, by rw [k.2.1]; exact h.2.2.1, by rw [k.2.2.1]; exact h.2.2.2⟩
theorem to_x {e m : Nat} {G G' : GlbS} {M : RowS} (h : TX e G M) (k : CX e G G') : TO e m G M G' M := ⟨k.1, mf_r, Or.inr (tx_cx h k), fun z => z⟩
section TOK
variable {e : Nat}
theorem cx_adv {s p : Nat} {G : GlbS} (h : CP e s p G) : ∃ G', f_X5_advance 1000 G = some G' ∧ CX e G G' := by
  obtain ⟨a2, a3, a4, a5, a6, a7⟩ := h
  obtain ⟨G', q, r, h1, k1, k2, k3, k4, k5, k6, k7, k8⟩ := c_adv a7 a6 a2 a3
  exact ⟨G', h1, ⟨k1, fun k hk => k2 k (by omega) (by omega) (by omega) (by omega)⟩, k2 7 (by decide) (by decide) (by decide) (by decide), k2 8 (by decide) (by decide) (by decide) (by decide), q, r, (k2 2 (by decide) (by decide) (by decide) (by decide)).trans a2, k3, k4, k6, k7, a7⟩
theorem adv_ok0 {p : Nat} {G : GlbS} {M : RowS} (a2 : G 3 2 = nI e) (a3 : G 3 3 = nI p) (a6 : p ≤ e) (a7 : e ≤ 600) (h7 : G 3 7 = 0 ∧ M.1 0 19 = 0 ∧ G 3 8 = -1 ∧ M.1 0 20 = -1) (hM : M.1 0 13 = nI e ∧ M.1 0 14 = nI p) (hB : BY e G M) : ∃ G' M' q r, f_X5_advance 1000 G = some G' ∧ f_X8_next 1000 M = some M' ∧ p ≤ q ∧ TS e q r G' M' ∧ GF G G' ∧ MF M M' := by
  obtain ⟨G', q, r, h1, k1, k2, k3, k4, k5, k6, k7, k8, k9, kd⟩ := c_adv a7 a6 a2 a3
  obtain ⟨M', q', r', g1, m1, m1l, m2, m3, m4, m5, m6, m7, m8, m9, md⟩ := m_adv a7 a6 hM.1 hM.2
  have eq : q = q' := stop_uniq (W := fun k => wsP (G 4 k)) (W' := fun k => wsP (M.1 11 k)) (fun k hk => by rw [(hB k hk).2]; exact by_ws (hB k hk).1) k5 (by omega) k8 k9 m5 (by omega) m8 m9
  subst eq
  have eB : BY e G' M' := fun k hk => by rw [k1 4 (by decide), m1 11 (by decide)]; exact hB k hk
  have e11 : M'.1 11 = M.1 11 := m1 11 (by decide)
  have hl : ∀ k, k < e → (f_X5_isLetter (G 4 k) = true ↔ f_X8_isLetter (M.1 11 k) = true) := fun k hk => by rw [(hB k hk).2]; exact by_let (hB k hk).1
  have hf : ∀ k, k < e → (f_X5_isDigit (G 4 k) = true ↔ f_X8_isFigure (M.1 11 k) = true) := fun k hk => by rw [(hB k hk).2]; exact by_fig (hB k hk).1
  have key : r = r' ∧ KD e q r G' M' := by
    rcases kd with ⟨c1, c2, c3⟩ | ⟨c1, c2, c3, c4, c5, c6⟩ | ⟨c1, c2, c2', c3, c4, c5, c6, c7⟩ | ⟨c1, c2, c2', c3, c4⟩
    · rcases md with ⟨d1, d2, d3⟩ | ⟨d1, d2, d3, d4, d5, d6, d7⟩ | ⟨d1, d2, d2', d3, d4, d5, d6, d7⟩ | ⟨d1, d2, d2', d3, d4⟩
      · exact ⟨by omega, Or.inl ⟨c3, d3, c1⟩⟩
      · omega
      · omega
      · omega
    · rcases md with ⟨d1, d2, d3⟩ | ⟨d1, d2, d3, d4, d5, d6, d7⟩ | ⟨d1, d2, d2', d3, d4, d5, d6, d7⟩ | ⟨d1, d2, d2', d3, d4⟩
      · omega
      · have er : r = r' := stop_uniq (W := fun k => f_X5_isLetter (G 4 k) = true) (W' := fun k => f_X8_isLetter (M.1 11 k) = true) hl k6 k7 c5 c6 m6 m7 d5 d6
        subst er
        exact ⟨rfl, Or.inr (Or.inl ⟨c3, d3, c4, by rw [e11]; exact d5, by rw [e11]; exact d7⟩)⟩
      · exact absurd ((hl q c1).mp c2) d2
      · exact absurd ((hl q c1).mp c2) d2
    · rcases md with ⟨d1, d2, d3⟩ | ⟨d1, d2, d3, d4, d5, d6, d7⟩ | ⟨d1, d2, d2', d3, d4, d5, d6, d7⟩ | ⟨d1, d2, d2', d3, d4⟩
      · omega
      · exact absurd ((hl q c1).mpr d2) c2
      · have er : r = r' := stop_uniq (W := fun k => f_X5_isDigit (G 4 k) = true) (W' := fun k => f_X8_isFigure (M.1 11 k) = true) hf k6 k7 c5 c6 m6 m7 d5 d6
        subst er
        have ev : ∀ i, i < r - q → G 4 (q + i) = M.1 11 (q + i) := fun i hi => by
          rw [(hB (q + i) (by omega)).2]
          exact by_fig_v (hB (q + i) (by omega)).1 (d5 (q + i) (by omega) (by omega))
        have en := numF_congr (f := fun i => (G 4 (q + i)).toInt.toNat - 48) (g := fun i => (M.1 11 (q + i)).toInt.toNat - 48) (r - q) (fun i hi => by show (G 4 (q + i)).toInt.toNat - 48 = _; rw [ev i hi])
        exact ⟨rfl, Or.inr (Or.inr (Or.inl ⟨c3, d3, c4, _, numF_bd (L := r - q) (fun i hi => by have := digit_v (d5 (q + i) (by omega) (by omega)); show (M.1 11 (q + i)).toInt.toNat - 48 ≤ 9; omega) (r - q) (Nat.le_refl _), by rw [c7, en], d7⟩))⟩
      · exact absurd ((hf q c1).mp c2') d2'
    · rcases md with ⟨d1, d2, d3⟩ | ⟨d1, d2, d3, d4, d5, d6, d7⟩ | ⟨d1, d2, d2', d3, d4, d5, d6, d7⟩ | ⟨d1, d2, d2', d3, d4⟩
      · omega
      · exact absurd ((hl q c1).mpr d2) c2
      · exact absurd ((hf q c1).mpr d2') c2'
      · exact ⟨by omega, Or.inr (Or.inr (Or.inr ⟨c3, d3, by omega⟩))⟩
  obtain ⟨er, K⟩ := key
  subst er
  refine ⟨G', M', q, r, h1, g1, k5, ⟨⟨(k2 2 (by decide) (by decide) (by decide) (by decide)).trans a2, k3, k4, k6, k7, a7⟩, ⟨?_, ?_, ?_, ?_⟩, ⟨?_, m3, m4⟩, eB, K⟩, ⟨k1, fun k hk => k2 k (by omega) (by omega) (by omega) (by omega)⟩, m1, m1l, fun k c1 c2 c3 c4 _ _ => m2 k c1 c2 c3 c4⟩
  · rw [k2 7 (by decide) (by decide) (by decide) (by decide)]; exact h7.1
  · rw [m2 19 (by decide) (by decide) (by decide) (by decide)]; exact h7.2.1
  · rw [k2 8 (by decide) (by decide) (by decide) (by decide)]; exact h7.2.2.1
  · rw [m2 20 (by decide) (by decide) (by decide) (by decide)]; exact h7.2.2.2
  · rw [m2 13 (by decide) (by decide) (by decide) (by decide)]; exact hM.1
theorem adv_ok {s p : Nat} {G : GlbS} {M : RowS} (h : CP e s p G) (h7 : G 3 7 = 0 ∧ M.1 0 19 = 0 ∧ G 3 8 = -1 ∧ M.1 0 20 = -1) (hM : M.1 0 13 = nI e ∧ M.1 0 14 = nI p) (hB : BY e G M) : ∃ G' M' q r, f_X5_advance 1000 G = some G' ∧ f_X8_next 1000 M = some M' ∧ p ≤ q ∧ TS e q r G' M' ∧ GF G G' ∧ MF M M' :=
  adv_ok0 h.1 h.2.1 h.2.2.2.2.1 h.2.2.2.2.2 h7 hM hB
end TOK
