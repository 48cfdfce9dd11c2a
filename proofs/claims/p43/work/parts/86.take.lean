/-! TAKE: words, signs and numbers that are taken -/
theorem isw_0 {G : GlbS} {i : Nat} {z : Int32} : ∀ n, 0 < n → wloop (fun t : Int32 × Int32 => l_X5_isWord_32 G i t.1 t.2) n (0, z) = some 0 := by
  intro n hn
  obtain ⟨n, rfl⟩ : ∃ k, n = k + 1 := ⟨n - 1, by omega⟩
  refine wl_en (f := fun t : Int32 × Int32 => l_X5_isWord_32 G i t.1 t.2) (s := (0, z)) ?_
  show l_X5_isWord_32 G i 0 z = _
  unfold l_X5_isWord_32
  rw [lt_eq]
  by_cases c : f_J0_length_8abf5 i ≤ z
  · rw [if_pos c]
  · rw [if_neg c, if_pos rfl]
theorem isw_28 {G : GlbS} {i : Nat} : b_X5_isWord_28 200 G i = some false := by
  unfold b_X5_isWord_28 b_X5_isWord_29
  rw [isw_0 200 (by decide), ob_some]
  rfl
theorem isw_no {G : GlbS} {i : Nat} (h : ¬ G 3 5 = 1) : f_X5_isWord 200 G i = some false := by
  unfold f_X5_isWord
  rw [if_neg h, isw_28]
theorem isw_len {G : GlbS} {w l : List Nat} {i : Nat} (hi : i < 21) (h : Wd G w l) (hl : ¬ w.length = (zl i).length) : f_X5_isWord 200 G i = some false := by
  obtain ⟨q, a, k, s, b⟩ := h
  have z := zl_len i hi
  have hq := a.2.2.1
  unfold f_X5_isWord
  rw [if_pos k, len_ok i hi, lt_eq, a.1, s, pk_sub (by omega), Nat.add_sub_cancel_left, if_neg (by rw [nI_eq (by omega) (by omega)]; omega), isw_28]
theorem isw_yes {G : GlbS} {w l : List Nat} {i : Nat} (hi : i < 21) (hw : w = zl i) (h : Wd G w l) : f_X5_isWord 200 G i = some true := by
  subst hw
  obtain ⟨q, a, k, s, b⟩ := h
  have z := zl_len i hi
  have hq := a.2.2.1
  have key := wl_count (f := fun t : Int32 × Int32 => l_X5_isWord_32 G i t.1 t.2) (fun j => (1, nI j)) (zl i).length 1 (fun j hj => by
    show l_X5_isWord_32 G i 1 (nI j) = _
    unfold l_X5_isWord_32 b_X5_isWord_87
    rw [len_ok i hi, lt_eq, if_neg (by rw [nI_leI (by omega) (by omega)]; omega), if_neg (by decide), s, nI_add, lt_eq, if_neg (nI_pos (by omega)), show (600 : Int32) = nI 600 from rfl, if_neg (by rw [nI_leI (by omega) (by omega)]; omega), ch_ok i hi j (by omega) (by omega), ob_some, nI_clamp (by omega), if_pos (by rw [b j hj, zl_ch i hi j (by omega)]), lt_eq, nI_1]) (by
    show l_X5_isWord_32 G i 1 (nI (zl i).length) = _
    unfold l_X5_isWord_32
    rw [len_ok i hi, lt_eq, if_pos (by rw [nI_leI (by omega) (by omega)]; omega)]) 200 (by omega)
  have key' : wloop (fun t : Int32 × Int32 => l_X5_isWord_32 G i t.1 t.2) 200 (1, 0) = some 1 := key
  unfold f_X5_isWord b_X5_isWord_29
  rw [if_pos k, len_ok i hi, lt_eq, a.1, s, pk_sub (by omega), Nat.add_sub_cancel_left, if_pos (by rw [z.1]), key', ob_some]
  rfl
theorem wd_lx {G : GlbS} {w l : List Nat} (h : Wd G w l) : Lx G l := ⟨_, h.choose_spec.1⟩
theorem nm_lx {G : GlbS} {n : Nat} {l : List Nat} (h : Nm G n l) : Lx G l := ⟨_, h.choose_spec.1⟩
theorem sn_lx {G : GlbS} {c : Nat} {l : List Nat} (h : Sn G c l) : Lx G l := ⟨_, h.choose_spec.1⟩
/-- what the next token of a rest is -/
def Ad (l : List Nat) (Q : GlbS → Prop) : Prop := ∀ G, Lx G l → ∃ G', f_X5_advance 200 G = some G' ∧ Q G' ∧ GF G G'
theorem tk_word {G : GlbS} {w l : List Nat} {i : Nat} {Q : GlbS → Prop} (hi : i < 21) (hw : w = zl i) (h : Wd G w l) (A : Ad l Q) : ∃ G', f_X5_takeWord 200 G i = some G' ∧ Q G' ∧ GF G G' := by
  obtain ⟨G', a, q, f⟩ := A G (wd_lx h)
  refine ⟨G', ?_, q, f⟩
  unfold f_X5_takeWord
  rw [isw_yes hi hw h, ob_some, if_pos rfl, a, ob_some, lt_eq]
theorem is_sign {G : GlbS} {c : Nat} {l : List Nat} (h : Sn G c l) : f_X5_isSign G (nI c) = true := by
  obtain ⟨q, a, k, s, b, hq⟩ := h
  unfold f_X5_isSign
  rw [if_pos k, s, c_byteAt hq, lt_eq, if_pos b]
theorem no_sign {G : GlbS} {x : Int32} (h : ¬ G 3 5 = 3) : f_X5_isSign G x = false := by
  unfold f_X5_isSign
  rw [if_neg h]
theorem tk_sign {G : GlbS} {l : List Nat} {Q : GlbS → Prop} (h : Sn G 59 l) (A : Ad l Q) : ∃ G', f_X5_takeSign 200 G 59 = some G' ∧ Q G' ∧ GF G G' := by
  obtain ⟨G', a, q, f⟩ := A G (sn_lx h)
  refine ⟨G', ?_, q, f⟩
  unfold f_X5_takeSign
  rw [show f_X5_isSign G 59 = true from is_sign h, lt_eq, if_pos rfl, a, ob_some, lt_eq]
theorem tk_num {G : GlbS} {n : Nat} {l : List Nat} {Q : GlbS → Prop} {lo hi : Int32} (h : Nm G n l) (h1 : ¬ nI n < lo) (h2 : nI n ≤ hi) (A : Ad l Q) : ∃ G', f_X5_takeNumber 200 G lo hi = some (nI n, G') ∧ Q G' ∧ GF G G' := by
  obtain ⟨G', a, q, f⟩ := A G (nm_lx h)
  obtain ⟨p, -, k, v⟩ := h
  refine ⟨G', ?_, q, f⟩
  unfold f_X5_takeNumber
  rw [v, lt_eq, if_pos k, if_neg h1, if_pos h2, a, ob_some, lt_eq]
-- the next tokens, by the text
def noDig (l : List Nat) : Prop := l.length = 0 ∨ ¬ (48 ≤ l.getD 0 0 ∧ l.getD 0 0 ≤ 57)
theorem nod_59 {l : List Nat} : noDig ([59] ++ l) := Or.inr (fun h => by have : 59 ≤ 57 := h.2; omega)
theorem nod_32 {l : List Nat} : noDig ([32] ++ l) := Or.inr (fun h => by have : 48 ≤ 32 := h.1; omega)
theorem nod_spd {v : Int} {l : List Nat} : noDig (spd v ++ l) := by
  unfold spd
  split
  · exact Or.inr (fun h => by have : 48 ≤ 32 := h.1; omega)
  · exact Or.inr (fun h => by have : 48 ≤ 32 := h.1; omega)
theorem ad_num {v : Int} {l : List Nat} (h0 : 0 ≤ v) (h1 : v < 1000000) (hs : noDig l) : Ad (spd v ++ l) (fun G => Nm G v.toNat l) := by
  intro G h
  unfold spd at h
  rw [if_neg (by omega), List.append_assoc] at h
  exact to_num (sp := 1) (Nat.le_refl _) (by omega) h hs
theorem ad_semi {l : List Nat} : Ad ([59] ++ l) (fun G => Sn G 59 l) := fun G h => to_sign (sp := 0) (by decide) h (by decide)
theorem ad_word {w l : List Nat} (h0 : 0 < w.length) (hn : w.length < 100) (hw : ∀ j, j < w.length → 97 ≤ w.getD j 0 ∧ w.getD j 0 ≤ 122) (hs : l.length = 0 ∨ ¬ (97 ≤ l.getD 0 0 ∧ l.getD 0 0 ≤ 122)) : Ad (w ++ l) (fun G => Wd G w l) := fun G h => to_word (sp := 0) (by decide) h h0 hn hw hs
/-- a number with a sign -/
def Sd (G : GlbS) (v : Int) (l : List Nat) : Prop := (0 ≤ v ∧ Nm G v.toNat l) ∨ (v < 0 ∧ Sn G 45 (dig (-v).toNat ++ l))
theorem ad_sd {v : Int} {l : List Nat} (h1 : -9999 ≤ v ∧ v ≤ 9999) (hs : noDig l) : Ad (spd v ++ l) (fun G => Sd G v l) := by
  intro G h
  by_cases q : v < 0
  · unfold spd at h
    rw [if_pos q, List.append_assoc] at h
    obtain ⟨G', a, b, c⟩ := to_sign (sp := 1) (c := 45) (l := dig (-v).toNat ++ l) (Nat.le_refl _) h (by decide)
    exact ⟨G', a, Or.inr ⟨q, b⟩, c⟩
  · obtain ⟨G', a, b, c⟩ := ad_num (by omega) (by omega) hs G h
    exact ⟨G', a, Or.inl ⟨by omega, b⟩, c⟩
theorem tk_signed {G : GlbS} {v : Int32} {l : List Nat} {Q : GlbS → Prop} (hv : bd v (-9999) 9999) (h : Sd G v.toInt l) (hs : noDig l) (A : Ad l Q) : ∃ G', f_X5_takeSigned 200 G = some (v, G') ∧ Q G' ∧ GF G G' := by
  unfold bd at hv
  have e0 : (0 : Int32).toInt = 0 := rfl
  have e9 : (9999 : Int32).toInt = 9999 := rfl
  unfold f_X5_takeSigned
  rcases h with ⟨h0, h⟩ | ⟨h0, h⟩
  · obtain ⟨G', a, q, f⟩ := tk_num (lo := 0) (hi := 9999) h (nI_pos (by omega)) (by rw [i32_le, nI_toInt (by omega), e9]; omega) A
    refine ⟨G', ?_, q, f⟩
    obtain ⟨p, -, k, -⟩ := h
    rw [no_sign (by rw [k]; decide), lt_eq, if_neg (by decide)]
    unfold b_X5_takeSigned_15
    rw [a, ob_some, lt_eq, lt_eq, if_neg (by decide), ← gI_of (a := v) (i := v.toInt.toNat) (by omega)]
  · obtain ⟨G1, a1, b1, c1⟩ := to_num (sp := 0) (by decide) (n := (-v.toInt).toNat) (by omega) (sn_lx h) hs
    obtain ⟨G', a, q, f⟩ := tk_num (lo := 0) (hi := 9999) b1 (nI_pos (by omega)) (by rw [i32_le, nI_toInt (by omega), e9]; omega) A
    refine ⟨G', ?_, q, gf_t c1 f⟩
    rw [show f_X5_isSign G 45 = true from is_sign h, lt_eq, if_pos rfl, a1, ob_some, lt_eq]
    unfold b_X5_takeSigned_15
    have en : (-v).toInt = -v.toInt := by rw [← Int32.zero_sub, i32_sub (by rw [e0]; omega), e0]; omega
    rw [a, ob_some, lt_eq, lt_eq, if_pos rfl, ← gI_of (a := -v) (i := (-v.toInt).toNat) (by omega), Int32.neg_neg]
