/-! LEX: tokens of a text that is known -/
theorem let_nI : ∀ b, b < 128 → (f_X5_isLetter (nI b) = true ↔ (97 ≤ b ∧ b ≤ 122)) := by decide +kernel
theorem fig_nI : ∀ b, b < 128 → (f_X5_isDigit (nI b) = true ↔ (48 ≤ b ∧ b ≤ 57)) := by decide +kernel
theorem ws_nI {b : Nat} (h : b < 128) : wsP (nI b) ↔ (b = 32 ∨ b = 10) := by
  unfold wsP
  rw [show (32 : Int32) = nI 32 from rfl, show (10 : Int32) = nI 10 from rfl, nI_eq (by omega) (by omega), nI_eq (by omega) (by omega)]
def GF (G G' : GlbS) : Prop := (∀ c, c ≠ 3 → G' c = G c) ∧ ∀ k, k < 3 → G' 3 k = G 3 k
theorem gf_r {G : GlbS} : GF G G := ⟨fun _ _ => rfl, fun _ _ => rfl⟩
theorem gf_t {A B C : GlbS} (h : GF A B) (k : GF B C) : GF A C := ⟨fun c hc => (k.1 c hc).trans (h.1 c hc), fun c hc => (k.2 c hc).trans (h.2 c hc)⟩
/-- the rest l of the text stands from p on; no error -/
def La (G : GlbS) (p : Nat) (l : List Nat) : Prop := G 3 3 = nI p ∧ G 3 2 = nI (p + l.length) ∧ p + l.length ≤ 600 ∧ (∀ k, k < l.length → G 4 (p + k) = nI (l.getD k 0) ∧ l.getD k 0 < 128) ∧ G 3 7 = 0 ∧ G 3 8 = -1
theorem la_tail {G G' : GlbS} {p : Nat} {a b : List Nat} (h : La G p (a ++ b)) (h3 : G' 3 3 = nI (p + a.length)) (h2 : G' 3 2 = G 3 2) (h4 : G' 4 = G 4) (h7 : G' 3 7 = G 3 7) (h8 : G' 3 8 = G 3 8) : La G' (p + a.length) b := by
  obtain ⟨l1, l2, l3, l4, l5, l6⟩ := h
  rw [List.length_append] at l2 l3 l4
  refine ⟨h3, by rw [h2, l2, Nat.add_assoc], by omega, fun k hk => ?_, by rw [h7]; exact l5, by rw [h8]; exact l6⟩
  have := l4 (a.length + k) (by omega)
  rw [getD_r (by omega), Nat.add_sub_cancel_left, ← Nat.add_assoc] at this
  rw [h4]
  exact this
theorem la_head {G : GlbS} {p : Nat} {a b : List Nat} (h : La G p (a ++ b)) {k : Nat} (hk : k < a.length) : G 4 (p + k) = nI (a.getD k 0) ∧ a.getD k 0 < 128 := by
  have := h.2.2.2.1 k (by rw [List.length_append]; omega)
  rw [getD_l hk] at this
  exact this
theorem adv_skip {G : GlbS} {p sp : Nat} {m : List Nat} (hsp : sp ≤ 1) (h : La G p (List.replicate sp 32 ++ m)) (hm : m.length = 0 ∨ (m.getD 0 0 ≠ 32 ∧ m.getD 0 0 ≠ 10)) : f_X5_advance 200 G = b_X5_advance_50 200 (sg G 3 3 (nI (p + sp))) := by
  have hl : (List.replicate sp 32 ++ m).length = sp + m.length := by rw [List.length_append, List.length_replicate]
  obtain ⟨l1, l2, l3, l4, l5, l6⟩ := id h
  rw [hl] at l2 l3 l4
  have eG : G = sg G 3 3 (nI p) := by
    unfold sg
    rw [← l1, up_self, up_self]
  have sk := c_skip (G := G) (e := p + (sp + m.length)) l3 l2 sp p 200 G eG (p + sp) rfl (by omega) (fun k k1 k2 => by
    have := la_head h (k := k - p) (by rw [List.length_replicate]; omega)
    rw [show p + (k - p) = k by omega] at this
    rw [this.1, ws_nI this.2]
    left
    rw [List.getD_eq_getElem?_getD, List.getElem?_replicate, if_pos (by omega)]
    rfl) (by
    rcases hm with z | z
    · left; omega
    · by_cases z0 : m.length = 0
      · left; omega
      · right
        have := l4 sp (by omega)
        rw [getD_r (by rw [List.length_replicate]; omega), List.length_replicate, Nat.sub_self] at this
        rw [this.1, ws_nI this.2]
        omega) (by omega)
  unfold f_X5_advance
  rw [sk, ob_some]
/-- the state at the token's first byte -/
theorem at_tok {G : GlbS} {p sp : Nat} {m : List Nat} (hsp : sp ≤ 1) (h : La G p (List.replicate sp 32 ++ m)) (hm : m.length = 0 ∨ (m.getD 0 0 ≠ 32 ∧ m.getD 0 0 ≠ 10)) : ∃ Gq, La Gq (p + sp) m ∧ Gq 3 4 = nI (p + sp) ∧ Gq 3 6 = 0 ∧ GF G Gq ∧ f_X5_advance 200 G = (if (Gq 3 3) < (Gq 3 2) then lt (f_X5_byteAt Gq (Gq 3 3)) fun x5 => lt (f_X5_isLetter x5) fun x6 => if x6 = true then lt (sg Gq 3 5 1) fun Gv22 => ob (wloop (fun t => l_X5_advance_101 t) 200 Gv22) (fun t => b_X5_advance_250 t) else lt (f_X5_byteAt Gq (Gq 3 3)) fun x8 => lt (f_X5_isDigit x8) fun x9 => if x9 = true then lt (sg Gq 3 5 2) fun Gv13 => ob (wloop (fun t => l_X5_advance_158 t) 200 Gv13) (fun t => b_X5_advance_250 t) else lt (sg Gq 3 5 3) fun Gv11 => lt (sg Gv11 3 3 ((Gv11 3 3) + 1)) fun Gv12 => b_X5_advance_250 Gv12 else lt (sg Gq 3 5 0) fun Gv28 => b_X5_advance_250 Gv28) := by
  have sk := adv_skip hsp h hm
  obtain ⟨Gq, hGq⟩ : ∃ Gq, Gq = sg (sg (sg G 3 3 (nI (p + sp))) 3 4 (nI (p + sp))) 3 6 0 := ⟨_, rfl⟩
  have ac : ∀ c, c ≠ 3 → Gq c = G c := fun c hc => by rw [hGq, sg_c hc, sg_c hc, sg_c hc]
  have ak : ∀ k, k ≠ 3 → k ≠ 4 → k ≠ 6 → Gq 3 k = G 3 k := fun k k3 k4 k6 => by rw [hGq, sg_ne (Or.inr k6), sg_ne (Or.inr k4), sg_ne (Or.inr k3)]
  have hr : (List.replicate sp 32).length = sp := List.length_replicate
  have t := la_tail (G' := Gq) h (by rw [hr, hGq, sg_ne (Or.inr (by decide)), sg_ne (Or.inr (by decide))]; exact sg_at) (ak 2 (by decide) (by decide) (by decide)) (ac 4 (by decide)) (ak 7 (by decide) (by decide) (by decide)) (ak 8 (by decide) (by decide) (by decide))
  rw [hr] at t
  refine ⟨Gq, t, by rw [hGq, sg_ne (Or.inr (by decide))]; exact sg_at, by rw [hGq]; exact sg_at, ⟨ac, fun k hk => ak k (by omega) (by omega) (by omega)⟩, ?_⟩
  rw [sk]
  unfold b_X5_advance_50
  rw [lt_eq, show (sg G 3 3 (nI (p + sp))) 3 3 = nI (p + sp) from sg_at, lt_eq, ← hGq]
def Wd (G : GlbS) (w l : List Nat) : Prop := ∃ q, La G (q + w.length) l ∧ G 3 5 = 1 ∧ G 3 4 = nI q ∧ ∀ j, j < w.length → G 4 (q + j) = nI (w.getD j 0)
def Nm (G : GlbS) (n : Nat) (l : List Nat) : Prop := ∃ p, La G p l ∧ G 3 5 = 2 ∧ G 3 6 = nI n
def Sn (G : GlbS) (c : Nat) (l : List Nat) : Prop := ∃ q, La G (q + 1) l ∧ G 3 5 = 3 ∧ G 3 4 = nI q ∧ G 4 q = nI c ∧ q < 600
def En (G : GlbS) : Prop := ∃ p, La G p [] ∧ G 3 5 = 0
def Lx (G : GlbS) (l : List Nat) : Prop := ∃ p, La G p l
theorem to_end {G : GlbS} (h : Lx G []) : ∃ G', f_X5_advance 200 G = some G' ∧ En G' ∧ GF G G' := by
  obtain ⟨p, h⟩ := h
  obtain ⟨Gq, q1, q2, q3, q4, q5⟩ := at_tok (sp := 0) (m := []) (by decide) h (Or.inl rfl)
  refine ⟨sg Gq 3 5 0, ?_, ⟨p, ⟨by rw [sg_ne (Or.inr (by decide))]; exact q1.1, by rw [sg_ne (Or.inr (by decide))]; exact q1.2.1, q1.2.2.1, fun k hk => (by cases hk), by rw [sg_ne (Or.inr (by decide))]; exact q1.2.2.2.2.1, by rw [sg_ne (Or.inr (by decide))]; exact q1.2.2.2.2.2⟩, sg_at⟩, gf_t q4 ⟨fun c hc => sg_c hc, fun k hk => sg_ne (Or.inr (by omega))⟩⟩
  have hp := q1.2.2.1
  simp only [List.length_nil] at hp
  rw [q5, q1.1, q1.2.1, if_neg (show ¬ nI (p + 0) < nI (p + 0 + ([] : List Nat).length) from nI_nlt (Nat.le_refl _) (by omega)), lt_eq]
  rfl
theorem to_word {G : GlbS} {sp : Nat} {w l : List Nat} (hsp : sp ≤ 1) (h : Lx G (List.replicate sp 32 ++ (w ++ l))) (h0 : 0 < w.length) (hn : w.length < 100) (hw : ∀ j, j < w.length → 97 ≤ w.getD j 0 ∧ w.getD j 0 ≤ 122) (hs : l.length = 0 ∨ ¬ (97 ≤ l.getD 0 0 ∧ l.getD 0 0 ≤ 122)) : ∃ G', f_X5_advance 200 G = some G' ∧ Wd G' w l ∧ GF G G' := by
  obtain ⟨p, h⟩ := h
  have w0 := hw 0 h0
  obtain ⟨Gq, q1, q2, q3, q4, q5⟩ := at_tok hsp h (Or.inr (by rw [getD_l h0]; omega))
  obtain ⟨q, hq⟩ : ∃ q, q = p + sp := ⟨_, rfl⟩
  rw [← hq] at q1 q2
  have l3 := q1.2.2.1
  rw [List.length_append] at l3
  have h4 := la_head q1 (k := 0) h0
  obtain ⟨a1, a2, a3, a4, a5, a6⟩ := id q1
  rw [List.length_append] at a2 a4
  have e5 : (sg Gq 3 5 1) = sg (sg Gq 3 5 1) 3 3 (nI q) := by
    have : (sg Gq 3 5 1) 3 3 = nI q := by rw [sg_ne (Or.inr (by decide))]; exact a1
    conv => rhs; unfold sg
    rw [← this]
    show sg Gq 3 5 1 = va_up (sg Gq 3 5 1) 3 (va_up ((sg Gq 3 5 1) 3) 3 ((sg Gq 3 5 1) 3 3))
    rw [up_self, up_self]
  have b4 : (sg Gq 3 5 1) 4 = Gq 4 := sg_c (by decide)
  have lt_ := c_letters (G := sg Gq 3 5 1) (e := q + (w.length + l.length)) l3 (by rw [sg_ne (Or.inr (by decide))]; exact a2) w.length q 200 _ e5 (q + w.length) rfl (by omega) (fun k k1 k2 => by
    have := la_head q1 (k := k - q) (by omega)
    rw [show q + (k - q) = k by omega] at this
    rw [b4, this.1, let_nI _ this.2]
    exact hw _ (by omega)) (by
    by_cases z : l.length = 0
    · left; omega
    · right
      have := a4 w.length (by omega)
      rw [getD_r (Nat.le_refl _), Nat.sub_self] at this
      rw [b4, this.1, let_nI _ this.2]
      rcases hs with y | y
      · exact absurd y z
      · exact y) (by omega)
  refine ⟨sg (sg Gq 3 5 1) 3 3 (nI (q + w.length)), ?_, ⟨q, ?_, by rw [sg_ne (Or.inr (by decide))]; exact sg_at, by rw [sg_ne (Or.inr (by decide)), sg_ne (Or.inr (by decide))]; exact q2, fun j hj => by rw [sg_c (by decide), sg_c (by decide)]; exact (la_head q1 hj).1⟩, gf_t q4 ⟨fun c hc => by rw [sg_c hc, sg_c hc], fun k hk => by rw [sg_ne (Or.inr (by omega)), sg_ne (Or.inr (by omega))]⟩⟩
  · rw [q5, a1, a2, if_pos (nI_lt (by omega) (by omega)), c_byteAt (by omega), lt_eq, lt_eq, show Gq 4 q = _ from h4.1, if_pos ((let_nI _ h4.2).mpr w0), lt_eq, lt_, ob_some]
    rfl
  · exact la_tail q1 sg_at (by rw [sg_ne (Or.inr (by decide)), sg_ne (Or.inr (by decide))]) (by rw [sg_c (by decide), sg_c (by decide)]) (by rw [sg_ne (Or.inr (by decide)), sg_ne (Or.inr (by decide))]) (by rw [sg_ne (Or.inr (by decide)), sg_ne (Or.inr (by decide))])
theorem to_sign {G : GlbS} {sp c : Nat} {l : List Nat} (hsp : sp ≤ 1) (h : Lx G (List.replicate sp 32 ++ ([c] ++ l))) (hc : c ≠ 32 ∧ c ≠ 10 ∧ ¬ (97 ≤ c ∧ c ≤ 122) ∧ ¬ (48 ≤ c ∧ c ≤ 57)) : ∃ G', f_X5_advance 200 G = some G' ∧ Sn G' c l ∧ GF G G' := by
  obtain ⟨p, h⟩ := h
  obtain ⟨Gq, q1, q2, q3, q4, q5⟩ := at_tok hsp h (Or.inr ⟨hc.1, hc.2.1⟩)
  obtain ⟨q, hq⟩ : ∃ q, q = p + sp := ⟨_, rfl⟩
  rw [← hq] at q1 q2
  have h4 := la_head q1 (k := 0) (Nat.zero_lt_succ _)
  have h4' : Gq 4 (q + 0) = nI c ∧ c < 128 := h4
  obtain ⟨a1, a2, a3, a4, a5, a6⟩ := id q1
  rw [List.length_append, show [c].length = 1 from rfl] at a2 a3
  refine ⟨sg (sg Gq 3 5 3) 3 3 (nI (q + 1)), ?_, ⟨q, ?_, by rw [sg_ne (Or.inr (by decide))]; exact sg_at, by rw [sg_ne (Or.inr (by decide)), sg_ne (Or.inr (by decide))]; exact q2, by rw [sg_c (by decide), sg_c (by decide)]; exact h4'.1, by omega⟩, gf_t q4 ⟨fun c hc => by rw [sg_c hc, sg_c hc], fun k hk => by rw [sg_ne (Or.inr (by omega)), sg_ne (Or.inr (by omega))]⟩⟩
  · have x3 : (sg Gq 3 5 3) 3 3 = nI q := by rw [sg_ne (Or.inr (by decide))]; exact a1
    rw [q5, a1, a2, if_pos (nI_lt (by omega) (by omega)), c_byteAt (by omega), lt_eq, lt_eq, show Gq 4 q = nI c from h4'.1, if_neg (fun z => hc.2.2.1 ((let_nI _ h4'.2).mp z)), lt_eq, lt_eq, if_neg (fun z => hc.2.2.2 ((fig_nI _ h4'.2).mp z)), lt_eq, lt_eq, x3, nI_1]
    rfl
  · exact la_tail (a := [c]) q1 sg_at (by rw [sg_ne (Or.inr (by decide)), sg_ne (Or.inr (by decide))]) (by rw [sg_c (by decide), sg_c (by decide)]) (by rw [sg_ne (Or.inr (by decide)), sg_ne (Or.inr (by decide))]) (by rw [sg_ne (Or.inr (by decide)), sg_ne (Or.inr (by decide))])
-- numbers
theorem dgs_get (n : Nat) : ∀ K i, i < K → (dgs n K).getD i 0 = 48 + n / 10 ^ (K - 1 - i) % 10 := by
  intro K
  induction K with
  | zero => intro i hi; omega
  | succ K ih =>
    intro i hi
    cases i with
    | zero => rfl
    | succ i =>
      show (dgs n K).getD i 0 = _
      rw [ih i (by omega), show K + 1 - 1 - (i + 1) = K - 1 - i by omega]
theorem numF_dgs {n K : Nat} (hn : n < 1000000) : ∀ j, j ≤ K → n < 10 ^ K → numF (fun i => (dgs n K).getD i 0 - 48) j = n / 10 ^ (K - j) := by
  intro j
  induction j with
  | zero =>
    intro _ h
    rw [Nat.sub_zero, Nat.div_eq_of_lt h]
    rfl
  | succ j ih =>
    intro hj h
    have h1 : n / 10 ^ (K - j) ≤ n := Nat.div_le_self _ _
    unfold numF
    rw [ih (by omega) h, if_pos (by omega)]
    show 10 * (n / 10 ^ (K - j)) + ((dgs n K).getD j 0 - 48) = _
    rw [dgs_get n K j (by omega), Nat.add_sub_cancel_left, show K - j = (K - (j + 1)) + 1 by omega, show K - 1 - j = K - (j + 1) by omega, Nat.pow_succ, ← Nat.div_div_eq_div_mul]
    omega
theorem to_num {G : GlbS} {sp n : Nat} {l : List Nat} (hsp : sp ≤ 1) (hn : n < 1000000) (h : Lx G (List.replicate sp 32 ++ (dig n ++ l))) (hs : l.length = 0 ∨ ¬ (48 ≤ l.getD 0 0 ∧ l.getD 0 0 ≤ 57)) : ∃ G', f_X5_advance 200 G = some G' ∧ Nm G' n l ∧ GF G G' := by
  obtain ⟨p, h⟩ := h
  obtain ⟨k1, k6⟩ := nd_bd n
  obtain ⟨n1, n2⟩ := nd_spec hn
  have hlen : (dig n).length = nd n := dgs_len n _
  have hdg : ∀ j, j < nd n → 48 ≤ (dig n).getD j 0 ∧ (dig n).getD j 0 ≤ 57 := fun j hj => by
    rw [show dig n = dgs n (nd n) from rfl, dgs_get n _ j hj]
    have := Nat.mod_lt (n / 10 ^ (nd n - 1 - j)) (show 0 < 10 by decide)
    omega
  have w0 := hdg 0 (by omega)
  obtain ⟨Gq, q1, q2, q3, q4, q5⟩ := at_tok hsp h (Or.inr (by rw [getD_l (by omega)]; omega))
  obtain ⟨q, hq⟩ : ∃ q, q = p + sp := ⟨_, rfl⟩
  rw [← hq] at q1 q2
  have l3 := q1.2.2.1
  rw [List.length_append, hlen] at l3
  have h4 := la_head q1 (k := 0) (by omega)
  obtain ⟨a1, a2, a3, a4, a5, a6⟩ := id q1
  rw [List.length_append, hlen] at a2 a4
  have b4 : (sg Gq 3 5 2) 4 = Gq 4 := sg_c (by decide)
  have e5 : (sg Gq 3 5 2) = sg (sg (sg Gq 3 5 2) 3 3 (nI q)) 3 6 (nI (numF (fun i => ((sg Gq 3 5 2) 4 (q + i)).toInt.toNat - 48) (q - q))) := by
    have x3 : (sg Gq 3 5 2) 3 3 = nI q := by rw [sg_ne (Or.inr (by decide))]; exact a1
    have x6 : (sg Gq 3 5 2) 3 6 = 0 := by rw [sg_ne (Or.inr (by decide))]; exact q3
    have y3 : sg (sg Gq 3 5 2) 3 3 (nI q) = sg Gq 3 5 2 := by
      rw [← x3]
      show va_up (sg Gq 3 5 2) 3 (va_up ((sg Gq 3 5 2) 3) 3 ((sg Gq 3 5 2) 3 3)) = _
      rw [up_self, up_self]
    rw [y3, Nat.sub_self]
    show _ = va_up (sg Gq 3 5 2) 3 (va_up ((sg Gq 3 5 2) 3) 6 (nI 0))
    rw [show nI 0 = (sg Gq 3 5 2) 3 6 from x6.symm, up_self, up_self]
  have dgl := c_digits (G := sg Gq 3 5 2) (e := q + (nd n + l.length)) l3 (by rw [sg_ne (Or.inr (by decide))]; exact a2) (s := q) (nd n) q 200 _ (Nat.le_refl _) e5 (q + nd n) rfl (by omega) (fun k k1 k2 => by
    have := la_head q1 (k := k - q) (by omega)
    rw [show q + (k - q) = k by omega] at this
    rw [b4, this.1, fig_nI _ this.2]
    exact hdg _ (by omega)) (by
    by_cases z : l.length = 0
    · left; omega
    · right
      have := a4 (nd n) (by omega)
      rw [getD_r (by omega), hlen, Nat.sub_self] at this
      rw [b4, this.1, fig_nI _ this.2]
      rcases hs with y | y
      · exact absurd y z
      · exact y) (by omega)
  have ev : numF (fun i => ((sg Gq 3 5 2) 4 (q + i)).toInt.toNat - 48) (q + nd n - q) = n := by
    rw [Nat.add_sub_cancel_left, numF_congr (g := fun i => (dgs n (nd n)).getD i 0 - 48) (nd n) (fun i hi => by
      have := la_head q1 (k := i) (by omega)
      show ((sg Gq 3 5 2) 4 (q + i)).toInt.toNat - 48 = (dig n).getD i 0 - 48
      rw [b4, this.1, nI_toInt (by omega)]
      rfl), numF_dgs hn (nd n) (Nat.le_refl _) n1, Nat.sub_self, Nat.pow_zero, Nat.div_one]
  rw [ev] at dgl
  refine ⟨sg (sg (sg Gq 3 5 2) 3 3 (nI (q + nd n))) 3 6 (nI n), ?_, ⟨q + nd n, ?_, by rw [sg_ne (Or.inr (by decide)), sg_ne (Or.inr (by decide))]; exact sg_at, sg_at⟩, gf_t q4 ⟨fun c hc => by rw [sg_c hc, sg_c hc, sg_c hc], fun k hk => by rw [sg_ne (Or.inr (by omega)), sg_ne (Or.inr (by omega)), sg_ne (Or.inr (by omega))]⟩⟩
  · rw [q5, a1, a2, if_pos (nI_lt (by omega) (by omega)), c_byteAt (by omega), lt_eq, lt_eq, show Gq 4 q = _ from h4.1, if_neg (fun z => by have := (let_nI _ h4.2).mp z; omega), lt_eq, lt_eq, if_pos ((fig_nI _ h4.2).mpr w0), lt_eq, dgl, ob_some]
    rfl
  · have t := la_tail (G' := sg (sg (sg Gq 3 5 2) 3 3 (nI (q + nd n))) 3 6 (nI n)) q1 (by rw [hlen, sg_ne (Or.inr (by decide))]; exact sg_at) (by rw [sg_ne (Or.inr (by decide)), sg_ne (Or.inr (by decide)), sg_ne (Or.inr (by decide))]) (by rw [sg_c (by decide), sg_c (by decide), sg_c (by decide)]) (by rw [sg_ne (Or.inr (by decide)), sg_ne (Or.inr (by decide)), sg_ne (Or.inr (by decide))]) (by rw [sg_ne (Or.inr (by decide)), sg_ne (Or.inr (by decide)), sg_ne (Or.inr (by decide))])
    rw [hlen] at t
    exact t
