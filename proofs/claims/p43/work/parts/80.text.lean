/-! TEXT: what the law writes -/
def zl (i : Nat) : List Nat := (zbyt.getD i []).map (fun x => x.toInt.toNat)
theorem zl_len : ∀ i, i < 21 → (zl i).length = zlen i ∧ zlen i ≤ 24 := by decide +kernel
theorem zl_ch : ∀ i, i < 21 → ∀ j, j < 24 → zch i j = nI ((zl i).getD j 0) := by decide +kernel
theorem zl_lt : ∀ i, i < 21 → ∀ b ∈ zl i, b < 128 := by decide +kernel
theorem len_ok : ∀ i, i < 21 → f_J0_length_8abf5 i = nI (zlen i) := by decide +kernel
theorem ch_ok : ∀ i, i < 21 → ∀ j, j < 24 → j < zlen i → f_J0_charAt_5068e i (nI j) = some (zch i j) := by decide +kernel
theorem take_s {l : List Nat} {k : Nat} (h : k < l.length) : l.take (k + 1) = l.take k ++ [l.getD k 0] := by
  rw [List.take_add_one, List.getElem?_eq_getElem h, List.getD_eq_getElem?_getD, List.getElem?_eq_getElem h]
  rfl
theorem getD_l {l m : List Nat} {k : Nat} (h : k < l.length) : (l ++ m).getD k 0 = l.getD k 0 := by
  rw [List.getD_eq_getElem?_getD, List.getD_eq_getElem?_getD, List.getElem?_append_left h]
theorem getD_r {l m : List Nat} {k : Nat} (h : l.length ≤ k) : (l ++ m).getD k 0 = m.getD (k - l.length) 0 := by
  rw [List.getD_eq_getElem?_getD, List.getD_eq_getElem?_getD, List.getElem?_append_right h]
def Tx (G : GlbS) (l : List Nat) : Prop := G 7 1 = nI l.length ∧ l.length ≤ 700 ∧ ∀ k, k < l.length → G 8 k = nI (l.getD k 0)
def FrT (G G' : GlbS) : Prop := ∀ c, c ≠ 7 → c ≠ 8 → G' c = G c
theorem frt_r {G : GlbS} : FrT G G := fun _ _ _ => rfl
theorem frt_t {A B C : GlbS} (h : FrT A B) (k : FrT B C) : FrT A C := fun c h1 h2 => (k c h1 h2).trans (h c h1 h2)
theorem tx_put {G : GlbS} {l : List Nat} (T : Tx G l) (h : l.length < 700) (b : Nat) : Tx (sg (sg G 8 l.length (nI b)) 7 1 (nI (l.length + 1))) (l ++ [b]) ∧ FrT G (sg (sg G 8 l.length (nI b)) 7 1 (nI (l.length + 1))) := by
  have hl : (l ++ [b]).length = l.length + 1 := by simp
  refine ⟨⟨by rw [hl]; exact sg_at, by omega, fun k hk => ?_⟩, fun c h7 h8 => by rw [sg_c h7, sg_c h8]⟩
  rw [hl] at hk
  rw [sg_c (by decide)]
  by_cases q : k = l.length
  · subst q
    rw [sg_at, getD_r (Nat.le_refl _), Nat.sub_self]
    rfl
  · rw [sg_ne (Or.inr q), T.2.2 k (by omega), getD_l (by omega)]
theorem writes_ok {P : RowsS} {G : GlbS} {l : List Nat} {i : Nat} (hi : i < 21) (T : Tx G l) (h : l.length + (zl i).length ≤ 700) : ∃ G', f_L_writes P G i = some G' ∧ Tx G' (l ++ zl i) ∧ FrT G G' := by
  obtain ⟨z1, z2⟩ := zl_len i hi
  obtain ⟨G', k1, k2, k3⟩ := wl_rel (f := fun t : Int32 × GlbS => l_L_writes_2 i t.1 t.2) (fun k s => s.1 = nI k ∧ Tx s.2 (l ++ (zl i).take k) ∧ FrT G s.2) (fun r => Tx r (l ++ zl i) ∧ FrT G r) (zl i).length (fun k s hk hs => by
    obtain ⟨x, G1⟩ := s
    obtain ⟨g1, g2, g3⟩ := hs
    simp only at g1 g2 g3
    subst g1
    have hlen : (l ++ (zl i).take k).length = l.length + k := by rw [List.length_append, List.length_take]; omega
    obtain ⟨p1, p2⟩ := tx_put g2 (by omega) ((zl i).getD k 0)
    rw [List.append_assoc, ← take_s hk, hlen] at p1
    rw [hlen] at p2
    refine ⟨(nI (k + 1), sg (sg G1 8 (l.length + k) (nI ((zl i).getD k 0))) 7 1 (nI (l.length + k + 1))), ?_, rfl, p1, frt_t g3 p2⟩
    show l_L_writes_2 i (nI k) G1 = _
    have e7 := g2.1
    rw [hlen] at e7
    unfold l_L_writes_2
    rw [len_ok i hi, lt_eq, if_neg (by rw [nI_leI (by omega) (by omega)]; omega), ch_ok i hi k (by omega) (by omega), ob_some, e7, if_pos (by rw [nI_toInt (by omega)]; omega), nI_clamp (by omega), zl_ch i hi k (by omega)]
    have e : (sg G1 8 (l.length + k) (nI ((zl i).getD k 0))) 7 1 = nI (l.length + k) := by rw [sg_c (by decide)]; exact e7
    simp only [lt, e, nI_1]) (fun s hs => by
    obtain ⟨x, G1⟩ := s
    obtain ⟨g1, g2, g3⟩ := hs
    simp only at g1 g2 g3
    subst g1
    rw [List.take_length] at g2
    refine ⟨G1, ?_, g2, g3⟩
    show l_L_writes_2 i (nI (zl i).length) G1 = _
    unfold l_L_writes_2
    rw [len_ok i hi, lt_eq, z1, if_pos (by rw [nI_leI (by omega) (by omega)]; omega)]) (zl i).length 0 200 (0, G) (by omega) (by omega) ⟨rfl, by rw [List.take_zero, List.append_nil]; exact T, frt_r⟩
  refine ⟨G', ?_, k2, k3⟩
  unfold f_L_writes
  rw [k1]
  rfl
-- numbers
def dgs (n : Nat) : Nat → List Nat
  | 0 => []
  | k + 1 => (48 + n / 10 ^ k % 10) :: dgs n k
def nd (n : Nat) : Nat := if n < 10 then 1 else if n < 100 then 2 else if n < 1000 then 3 else if n < 10000 then 4 else if n < 100000 then 5 else 6
def dig (n : Nat) : List Nat := dgs n (nd n)
def spd (v : Int) : List Nat := if v < 0 then [32, 45] ++ dig (-v).toNat else [32] ++ dig v.toNat
theorem dgs_len (n : Nat) : ∀ k, (dgs n k).length = k := by
  intro k
  induction k with
  | zero => rfl
  | succ k ih => show (dgs n k).length + 1 = _; rw [ih]
theorem dgs_lt (n : Nat) : ∀ k, ∀ b ∈ dgs n k, 48 ≤ b ∧ b < 58 := by
  intro k
  induction k with
  | zero => intro b hb; cases hb
  | succ k ih =>
    intro b hb
    rcases List.mem_cons.mp hb with h | h
    · have := Nat.mod_lt (n / 10 ^ k) (show 0 < 10 by decide)
      omega
    · exact ih b h
theorem nd_bd (n : Nat) : 1 ≤ nd n ∧ nd n ≤ 6 := by
  unfold nd
  split
  · omega
  · split
    · omega
    · split
      · omega
      · split
        · omega
        · split <;> omega
theorem pw6 {k : Nat} (hk : k ≤ 6) : 1 ≤ 10 ^ k ∧ 10 ^ k ≤ 1000000 := ⟨Nat.le_trans Nat.one_le_two_pow (Nat.pow_le_pow_left (by decide) k), Nat.pow_le_pow_right (by decide) hk⟩
theorem nd_spec {n : Nat} (h : n < 1000000) : n < 10 ^ nd n ∧ ∀ i, i + 1 < nd n → 10 ^ (i + 1) ≤ n := by
  have key : ∀ c, 1 ≤ c → c ≤ 6 → n < 10 ^ c → (c = 1 ∨ 10 ^ (c - 1) ≤ n) → n < 10 ^ c ∧ ∀ i, i + 1 < c → 10 ^ (i + 1) ≤ n := by
    intro c c1 c6 h1 h2
    refine ⟨h1, fun i hi => ?_⟩
    rcases h2 with h2 | h2
    · omega
    · exact Nat.le_trans (Nat.pow_le_pow_right (by decide) (by omega)) h2
  unfold nd
  by_cases a1 : n < 10
  · rw [if_pos a1]; exact key 1 (by decide) (by decide) a1 (Or.inl rfl)
  rw [if_neg a1]
  by_cases a2 : n < 100
  · rw [if_pos a2]; exact key 2 (by decide) (by decide) a2 (Or.inr (by show 10 ≤ n; omega))
  rw [if_neg a2]
  by_cases a3 : n < 1000
  · rw [if_pos a3]; exact key 3 (by decide) (by decide) a3 (Or.inr (by show 100 ≤ n; omega))
  rw [if_neg a3]
  by_cases a4 : n < 10000
  · rw [if_pos a4]; exact key 4 (by decide) (by decide) a4 (Or.inr (by show 1000 ≤ n; omega))
  rw [if_neg a4]
  by_cases a5 : n < 100000
  · rw [if_pos a5]; exact key 5 (by decide) (by decide) a5 (Or.inr (by show 10000 ≤ n; omega))
  rw [if_neg a5]
  exact key 6 (by decide) (by decide) h (Or.inr (by show 100000 ≤ n; omega))
theorem quo_nI {a b : Nat} (ha : a < 2 ^ 31) (hb : b < 2 ^ 31) : nI a / nI b = nI (a / b) := by
  have h1 : a / b ≤ a := Nat.div_le_self _ _
  apply i32_eq
  rw [quo_int (by rw [nI_toInt ha]; omega), nI_toInt ha, nI_toInt hb, nI_toInt (by omega)]
  rfl
theorem rem_nI2 {a b : Nat} (ha : a < 2 ^ 31) (hb : b < 2 ^ 31) (h0 : 0 < b) : nI a - nI a / nI b * nI b = nI (a % b) := by
  have h1 : a % b ≤ a := Nat.mod_le _ _
  apply i32_eq
  rw [rem_int (by rw [nI_toInt ha]; omega) (by rw [nI_toInt hb]; omega), nI_toInt ha, nI_toInt hb, nI_toInt (by omega)]
  rfl
def oneK : Nat → Int32
  | 0 => 0
  | k + 1 => nI (10 ^ k)
theorem digs_loop {n : Nat} (hn : n < 1000000) : ∀ (K m : Nat) (G : GlbS) (l : List Nat), K ≤ 6 → Tx G l → l.length + K ≤ 700 → K < m → ∃ G', wloop (fun t : Int32 × GlbS => l_L_spaced_44 (nI n) t.1 t.2) m (oneK K, G) = some G' ∧ Tx G' (l ++ dgs n K) ∧ FrT G G' := by
  intro K
  induction K with
  | zero =>
    intro m G l _ T _ hm
    obtain ⟨m, rfl⟩ : ∃ k, m = k + 1 := ⟨m - 1, by omega⟩
    refine ⟨G, ?_, by rw [dgs, List.append_nil]; exact T, frt_r⟩
    refine wl_en ?_
    show l_L_spaced_44 (nI n) 0 G = _
    unfold l_L_spaced_44
    rw [if_pos (by decide)]
  | succ k ih =>
    intro m G l hK T hl hm
    obtain ⟨m, rfl⟩ : ∃ i, m = i + 1 := ⟨m - 1, by omega⟩
    have hp := pw6 (k := k) (by omega)
    obtain ⟨p1, p2⟩ := tx_put T (by omega) (48 + n / 10 ^ k % 10)
    obtain ⟨G', i1, i2, i3⟩ := ih m _ _ (by omega) p1 (by simp; omega) (by omega)
    refine ⟨G', ?_, by rw [List.append_assoc] at i2; exact i2, frt_t p2 i3⟩
    have hq : n / 10 ^ k ≤ n := Nat.div_le_self _ _
    have hr : n / 10 ^ k % 10 < 10 := Nat.mod_lt _ (by decide)
    have st : l_L_spaced_44 (nI n) (nI (10 ^ k)) G = some (.inl (oneK k, sg (sg G 8 l.length (nI (48 + n / 10 ^ k % 10))) 7 1 (nI (l.length + 1)))) := by
      unfold l_L_spaced_44
      have hd : 48 + ((nI n / nI (10 ^ k)) - (nI n / nI (10 ^ k)) / 10 * 10) = nI (48 + n / 10 ^ k % 10) := by
        rw [quo_nI (by omega) (by omega), show (10 : Int32) = nI 10 from rfl, rem_nI2 (by omega) (by omega) (by omega), show (48 : Int32) = nI 48 from rfl, nI_add]
      have e : (sg G 8 l.length (nI (48 + n / 10 ^ k % 10))) 7 1 = nI l.length := by rw [sg_c (by decide)]; exact T.1
      have hone : nI (10 ^ k) / 10 = oneK k := by
        cases k with
        | zero => rfl
        | succ k =>
          rw [show (10 : Int32) = nI 10 from rfl, quo_nI (by omega) (by omega)]
          show nI (10 ^ (k + 1) / 10) = nI (10 ^ k)
          rw [Nat.pow_succ, Nat.mul_div_cancel _ (by decide)]
      rw [if_neg (by rw [show (0 : Int32) = nI 0 from rfl, nI_leI (by omega) (by omega)]; omega), if_pos (nI_ne0 (by omega) (by omega)), T.1, if_pos (by rw [nI_toInt (by omega)]; omega), nI_clamp (by omega), hd]
      simp only [lt, e, nI_1, hone]
    exact (wl_st (f := fun t : Int32 × GlbS => l_L_spaced_44 (nI n) t.1 t.2) (s := (nI (10 ^ k), G)) st).trans i1
theorem ones_loop {n : Nat} (hn : n < 1000000) : wloop (fun t : Int32 => l_L_spaced_28 (nI n) t) 200 1 = some (oneK (nd n)) := by
  have hb := nd_bd n
  obtain ⟨h1, h2⟩ := nd_spec hn
  have key := wl_count (f := fun t : Int32 => l_L_spaced_28 (nI n) t) (fun i => nI (10 ^ i)) (nd n - 1) (oneK (nd n)) (fun i hi => by
    have hp := pw6 (k := i + 1) (by omega)
    have hp0 := pw6 (k := i) (by omega)
    have h3 := h2 i (by omega)
    have h4 : ¬ n / 10 ^ i ≤ 9 := by
      have : 10 ≤ n / 10 ^ i := (Nat.le_div_iff_mul_le (by omega)).mpr (by rw [Nat.mul_comm, ← Nat.pow_succ]; exact h3)
      omega
    have h5 : n / 10 ^ i ≤ n := Nat.div_le_self _ _
    show l_L_spaced_28 (nI n) (nI (10 ^ i)) = _
    unfold l_L_spaced_28
    rw [if_pos (nI_ne0 (by omega) (by omega)), quo_nI (by omega) (by omega), show (9 : Int32) = nI 9 from rfl, if_neg (by rw [nI_leI (by omega) (by omega)]; exact h4), lt_eq, show (10 : Int32) = nI 10 from rfl, pk_mul, Nat.pow_succ]) (by
    have hp := pw6 (k := nd n) (by omega)
    have hp0 := pw6 (k := nd n - 1) (by omega)
    have h4 : n / 10 ^ (nd n - 1) ≤ 9 := by
      have : n / 10 ^ (nd n - 1) < 10 := (Nat.div_lt_iff_lt_mul (by omega)).mpr (by rw [Nat.mul_comm, ← Nat.pow_succ, show (nd n - 1).succ = nd n by omega]; exact h1)
      omega
    have h5 : n / 10 ^ (nd n - 1) ≤ n := Nat.div_le_self _ _
    show l_L_spaced_28 (nI n) (nI (10 ^ (nd n - 1))) = _
    unfold l_L_spaced_28
    rw [if_pos (nI_ne0 (by omega) (by omega)), quo_nI (by omega) (by omega), show (9 : Int32) = nI 9 from rfl, if_pos (by rw [nI_leI (by omega) (by omega)]; exact h4)]
    generalize nd n = d at hb
    obtain ⟨d, rfl⟩ : ∃ i, d = i + 1 := ⟨d - 1, by omega⟩
    rfl) 200 (by omega)
  exact key
theorem spaced_ok {P : RowsS} {G : GlbS} {l : List Nat} {v : Int32} (hv : bd v (-9999) 999999) (T : Tx G l) (h : l.length + 8 ≤ 700) : ∃ G', f_L_spaced P G v = some G' ∧ Tx G' (l ++ spd v.toInt) ∧ FrT G G' := by
  unfold bd at hv
  have e0 : (0 : Int32).toInt = 0 := rfl
  have z1 : zl 1 = [32, 45] := by decide +kernel
  have z2 : zl 2 = [32] := by decide +kernel
  have go : ∀ (G1 : GlbS) (l1 : List Nat) (n : Nat), n < 1000000 → Tx G1 l1 → l1.length + 6 ≤ 700 → ∃ G', b_L_spaced_25 (nI n) G1 = some G' ∧ Tx G' (l1 ++ dig n) ∧ FrT G1 G' := by
    intro G1 l1 n hn T1 h1
    have hb := nd_bd n
    obtain ⟨G', k1, k2, k3⟩ := digs_loop hn (nd n) 200 G1 l1 (by omega) T1 (by omega) (by omega)
    refine ⟨G', ?_, k2, k3⟩
    unfold b_L_spaced_25
    rw [ones_loop hn, ob_some]
    unfold b_L_spaced_44
    rw [k1]
    rfl
  unfold f_L_spaced b_L_spaced_12
  by_cases q : 0 ≤ v
  · have q' := q
    rw [i32_le, e0] at q'
    obtain ⟨G1, w1, w2, w3⟩ := writes_ok (P := P) (i := 2) (by decide) T (by rw [z2]; simp; omega)
    rw [z2] at w2
    obtain ⟨G', k1, k2, k3⟩ := go G1 _ v.toInt.toNat (by omega) w2 (by simp; omega)
    rw [← gI_of (a := v) (i := v.toInt.toNat) (by omega)] at k1
    refine ⟨G', by rw [if_pos q, w1, ob_some, lt_eq, if_pos q, k1], ?_, frt_t w3 k3⟩
    unfold spd
    rw [if_neg (by omega), ← List.append_assoc]
    exact k2
  · have q' := q
    rw [i32_le, e0] at q'
    obtain ⟨G1, w1, w2, w3⟩ := writes_ok (P := P) (i := 1) (by decide) T (by rw [z1]; simp; omega)
    rw [z1] at w2
    obtain ⟨G', k1, k2, k3⟩ := go G1 _ (-v.toInt).toNat (by omega) w2 (by simp; omega)
    have en : (-v).toInt = -v.toInt := by rw [← Int32.zero_sub, i32_sub (by rw [e0]; omega), e0]; omega
    rw [← gI_of (a := -v) (i := (-v.toInt).toNat) (by omega)] at k1
    refine ⟨G', by rw [if_neg q, w1, ob_some, lt_eq, if_neg q, k1], ?_, frt_t w3 k3⟩
    unfold spd
    rw [if_pos (by omega), ← List.append_assoc]
    exact k2
