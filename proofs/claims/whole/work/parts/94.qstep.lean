/-! QUERY 7: the machine's steps -/
section QSTEP
variable {e : Nat} {G : GlbS} {M : RowS}
/-- what waits on top is taken to the codes -/
def popM (M : RowS) (w c : Nat) (t : Int32) : RowS := si (si (si M 0 27 (nI w)) 23 c t) 0 26 (nI (c + 1))
theorem pop_st {w c a : Nat} {t : Int32} (h : M.1 0 28 = nI a) : St w (c + 1) a (popM M w c t) := by
  unfold popM
  exact ⟨by rw [si_ne (Or.inr (by decide)), si_ne (Or.inl (by decide))]; exact si_at, si_at, by rw [si_ne (Or.inr (by decide)), si_ne (Or.inl (by decide)), si_ne (Or.inr (by decide))]; exact h⟩
theorem pop_24 {w c : Nat} {t : Int32} : (popM M w c t).1 24 = M.1 24 := by
  unfold popM
  rw [si_c (by decide), si_c (by decide), si_c (by decide)]
theorem pop_23 {w c i : Nat} {t : Int32} (h : i ≠ c) : (popM M w c t).1 23 i = M.1 23 i := by
  unfold popM
  rw [si_c (by decide), si_ne (Or.inr h), si_c (by decide)]
theorem pop_c {w c : Nat} {t : Int32} : (popM M w c t).1 23 c = t := by
  unfold popM
  rw [si_c (by decide)]
  exact si_at
theorem pop_mq {w c : Nat} {t : Int32} : MQf M (popM M w c t) := mq_t (mq_t (mq_si (Or.inr (Or.inr ⟨rfl, Or.inr (Or.inl rfl)⟩))) (mq_si (Or.inl rfl))) (mq_si (Or.inr (Or.inr ⟨rfl, Or.inl rfl⟩)))
theorem pop_ts {s p w c : Nat} {t : Int32} (h : TS e s p G M) : TS e s p G (popM M w c t) := ts_si (ts_si (ts_si h (Or.inr (Or.inr ⟨rfl, Or.inr (Or.inl rfl)⟩))) (Or.inl rfl)) (Or.inr (Or.inr ⟨rfl, Or.inl rfl⟩))
theorem set_stop0 {c a : Nat} {y : Int32} (hg : M.1 0 19 = 0) (st : St 0 c a M) : l_X8_settles__0 y M = some (.inr M) := by
  unfold l_X8_settles__0
  rw [good_t hg, lt_eq, if_pos rfl, st.1, if_pos (by decide)]
theorem set_top {w c a : Nat} {y : Int32} (hg : M.1 0 19 = 0) (st : St (w + 1) c a M) (hw : w < 200) (hc : c < 200) : l_X8_settles__0 y M = if f_X8_strength (M.1 24 w) < y then some (.inr M) else if M.1 24 w = 23 then some (.inl (si (popM M w c (M.1 24 w)) 0 28 (M.1 0 28 - 1))) else some (.inl (popM M w c (M.1 24 w))) := by
  have e1 : nI (w + 1) - 1 = nI w := by rw [show (1 : Int32) = nI 1 from rfl, pk_sub (by omega), Nat.add_sub_cancel]
  have i1 : 0 ≤ (nI w).toInt ∧ (nI w).toInt < 200 := by rw [nI_toInt (by omega)]; omega
  have x27 : (si M 0 27 (nI w)).1 0 27 = nI w := si_at
  have x24 : (si M 0 27 (nI w)).1 24 = M.1 24 := si_c (by decide)
  have x26 : (si M 0 27 (nI w)).1 0 26 = nI c := by rw [si_ne (Or.inr (by decide))]; exact st.2.1
  have y27 : (popM M w c (M.1 24 w)).1 0 27 = nI w := (pop_st (a := a) st.2.2).1
  have y28 : (popM M w c (M.1 24 w)).1 0 28 = M.1 0 28 := by rw [(pop_st (a := a) st.2.2).2.2, st.2.2]
  have ea : f_X8_adds (si M 0 27 (nI w)) (M.1 24 w) = some (popM M w c (M.1 24 w)) := by
    rw [m_adds x26 hc]
    rfl
  unfold l_X8_settles__0
  rw [good_t hg, lt_eq, if_pos rfl, st.1, if_neg (by rw [show (0 : Int32) = nI 0 from rfl, nI_leI (by omega) (by omega)]; omega), e1, if_pos i1, nI_clamp (by omega), lt_eq]
  by_cases q : f_X8_strength (M.1 24 w) < y
  · rw [if_pos q, if_pos q]
  · rw [if_neg q, if_neg q, lt_eq, x27, if_pos i1, nI_clamp (by omega), x24, ea, ob_some, lt_eq, y27, if_pos i1, nI_clamp (by omega), pop_24, y28]
    rfl
theorem str_23 : f_X8_strength 23 = 3 := by decide
theorem str_24 : f_X8_strength 24 = 2 := by decide
theorem str_25 : f_X8_strength 25 = 1 := by decide
theorem str_1 : f_X8_strength 1 = 0 := by decide
/-- the top waits on: it is weaker -/
def Weak (y : Int32) (w : Nat) (M : RowS) : Prop := w = 0 ∨ f_X8_strength (M.1 24 (w - 1)) < y
theorem set_stop {w c a : Nat} {y : Int32} (hg : M.1 0 19 = 0) (st : St w c a M) (hw : w ≤ 200) (hc : c < 200) (k : Weak y w M) : l_X8_settles__0 y M = some (.inr M) := by
  by_cases z : w = 0
  · subst z
    exact set_stop0 hg st
  · obtain ⟨v, rfl⟩ : ∃ v, w = v + 1 := ⟨w - 1, by omega⟩
    rcases k with k | k
    · omega
    · rw [Nat.add_sub_cancel] at k
      rw [set_top hg st (by omega) hc, if_pos k]
theorem eS_stop {w c a g h j : Nat} (hg : M.1 0 19 = 0) (st : St w c a M) (hw : w ≤ 200) (hc : c < 200) (k : Weak 3 w M) : eS (g + 1) h j M = eB h j M := by
  unfold eS
  rw [wl_en (f := fun t : RowS => l_X8_settles__0 3 t) (set_stop hg st hw hc k), ob_some]
theorem eS_not {w c a g h j : Nat} (hg : M.1 0 19 = 0) (st : St (w + 1) c (a + 1) M) (hw : w < 200) (hc : c < 200) (ha : a < 10) (k : M.1 24 w = 23) : eS (g + 1) h j M = eS g h j (si (popM M w c 23) 0 28 (nI a)) := by
  have e1 : nI (a + 1) - 1 = nI a := by rw [show (1 : Int32) = nI 1 from rfl, pk_sub (by omega), Nat.add_sub_cancel]
  have hs := set_top (y := 3) hg st hw hc
  rw [k, str_23, if_neg (by decide), if_pos rfl, st.2.2, e1] at hs
  unfold eS
  rw [wl_st (f := fun t : RowS => l_X8_settles__0 3 t) hs]
theorem eA_in {i j : Nat} {y : Int32} (hy : (f_X8_isWord M 10631 = true ∧ y = 23) ∨ (f_X8_isWord M 10631 = false ∧ f_X8_isByte M 40 = some true ∧ y = 1)) : eA (i + 1) j M = ob (f_X8_goesIn 1000 M y) fun x5 => if x5.1 = true then eA i j x5.2 else eD j x5.2 := by
  have hl : l_X8_comparisonRead_0 1000 M = ob (f_X8_goesIn 1000 M y) fun x5 => if x5.1 = true then some (.inl x5.2) else some (.inr (.inr x5.2)) := by
    unfold l_X8_comparisonRead_0 b_X8_comparisonRead_19 b_X8_comparisonRead_36
    rcases hy with ⟨h1, h2⟩ | ⟨h1, h2, h3⟩
    · rw [h1, lt_eq, if_pos rfl, lt_eq, if_pos rfl, h2]
      rfl
    · rw [h1, lt_eq, if_neg (by decide), h2, ob_some, if_pos rfl, lt_eq, if_neg (by decide), h3]
      rfl
  unfold eA
  rw [wl_un]
  show ob (ob (ob (l_X8_comparisonRead_0 1000 M) _) _) _ = _
  rw [hl]
  cases f_X8_goesIn 1000 M y with
  | none => rfl
  | some x =>
    obtain ⟨b, M1⟩ := x
    cases b with
    | true => rfl
    | false => rfl
theorem eA_cmp {i j : Nat} (h1 : f_X8_isWord M 10631 = false) (h2 : f_X8_isByte M 40 = some false) : eA (i + 1) j M = ob (b_X8_comparisonRead_43 1000 M) fun x => eD j x := by
  have hl : l_X8_comparisonRead_0 1000 M = some (.inr (.inl M)) := by
    unfold l_X8_comparisonRead_0
    rw [h1, lt_eq, if_neg (by decide), h2, ob_some, if_neg (by decide)]
  unfold eA
  rw [wl_un]
  show ob (ob (ob (l_X8_comparisonRead_0 1000 M) _) _) _ = _
  rw [hl]
  rfl
theorem eB_no {h j : Nat} (k : f_X8_isByte M 41 = some false) : eB (h + 1) j M = eC j M := by
  have hl : l_X8_closes_5 1000 M = some (.inr M) := by
    unfold l_X8_closes_5
    rw [k, ob_some, if_neg (by decide)]
  unfold eB
  rw [wl_en (f := fun t : RowS => l_X8_closes_5 1000 t) hl, ob_some]
theorem eB_out {h j : Nat} (k : f_X8_isByte M 41 = some true) (k2 : f_X8_isInside 1000 M = some false) : eB (h + 1) j M = eC j M := by
  have hl : l_X8_closes_5 1000 M = some (.inr M) := by
    unfold l_X8_closes_5
    rw [k, ob_some, if_pos rfl, k2, ob_some, if_neg (by decide)]
  unfold eB
  rw [wl_en (f := fun t : RowS => l_X8_closes_5 1000 t) hl, ob_some]
theorem eB_in {h j : Nat} {M1 M2 : RowS} (k : f_X8_isByte M 41 = some true) (k2 : f_X8_isInside 1000 M = some true) (k3 : f_X8_settles_ 1000 M 1 = some M1) (k4 : f_X8_next 1000 (si (si M1 0 27 (M1.1 0 27 - 1)) 0 28 ((si M1 0 27 (M1.1 0 27 - 1)).1 0 28 - 1)) = some M2) : eB (h + 1) j M = eS 1000 h j M2 := by
  have hl : l_X8_closes_5 1000 M = ob (wloop (fun t : RowS => l_X8_settles__0 3 t) 1000 M2) fun x => some (.inl x) := by
    unfold l_X8_closes_5
    rw [k, ob_some, if_pos rfl, k2, ob_some, if_pos rfl, k3, ob_some, lt_eq, lt_eq, lt_eq, k4, ob_some, lt_eq]
    unfold f_X8_settles_ b_X8_settles__82
    cases wloop (fun t : RowS => l_X8_settles__0 3 t) 1000 M2 with
    | none => rfl
    | some x => rfl
  unfold eB
  rw [wl_un]
  show ob (ob (l_X8_closes_5 1000 M) _) _ = _
  rw [hl]
  unfold eS
  cases wloop (fun t : RowS => l_X8_settles__0 3 t) 1000 M2 with
  | none => rfl
  | some x => rfl
/-- `and`, `or` -/
theorem eC_on {j w : Nat} {y st : Int32} {M1 M2 : RowS} (hy : (f_X8_isWord M 1111 = true ∧ y = 24 ∧ st = 2) ∨ (f_X8_isWord M 1111 = false ∧ f_X8_isWord M 423 = true ∧ y = 25 ∧ st = 1)) (k1 : f_X8_settles_ 1000 M st = some M1) (k2 : M1.1 0 27 = nI w) (hw : w < 200) (k3 : f_X8_next 1000 (si (si M1 24 w y) 0 27 (nI (w + 1))) = some M2) : eC (j + 1) M = eA 1000 j M2 := by
  have h81 : ∀ z : Int32, ¬ z = 0 → f_X8_strength z = st → y = z → b_X8_reads_71 1000 z M = some (.inl (1, M2)) := by
    intro z hz hs hyz
    unfold b_X8_reads_71 b_X8_reads_81
    rw [if_neg hz, if_neg (by decide), hs, lt_eq, k1, ob_some, lt_eq, k2, if_pos (by rw [nI_toInt (by omega)]; omega), nI_clamp (by omega), lt_eq, si_ne (Or.inl (by decide)), k2, nI_1, lt_eq, ← hyz, k3, ob_some]
    rfl
  have hq : qC M = some (.inl (1, M2)) := by
    unfold qC
    rcases hy with ⟨h1, h2, h3⟩ | ⟨h1, h2, h3, h4⟩
    · rw [h1, lt_eq, if_pos rfl]
      exact h81 24 (by decide) (by rw [h3]; exact str_24) h2
    · rw [h1, lt_eq, if_neg (by decide), h2, lt_eq, if_pos rfl]
      exact h81 25 (by decide) (by rw [h4]; exact str_25) h3
  unfold eC
  rw [hq, ob_some]
  exact e_loop (z := 1) (by decide)
theorem eC_end {j : Nat} (h1 : f_X8_isWord M 1111 = false) (h2 : f_X8_isWord M 423 = false) : eC (j + 1) M = b_X8_reads_124 1000 M := by
  have hq : qC M = some (.inl (0, M)) := by
    unfold qC b_X8_reads_71 b_X8_reads_81
    rw [h1, lt_eq, if_neg (by decide), h2, lt_eq, if_neg (by decide), if_pos rfl, if_pos rfl]
  unfold eC
  rw [hq, ob_some]
  show eL (wloop (fun t : Int32 × RowS => l_X8_reads_20 1000 t.1 t.2) (j + 1) (0, M)) = _
  rw [wl_en (f := fun t : Int32 × RowS => l_X8_reads_20 1000 t.1 t.2) (s := (0, M)) (r := .inl M) (by
    show l_X8_reads_20 1000 0 M = _
    unfold l_X8_reads_20
    rw [if_pos rfl])]
  rfl
theorem inside_ok {w : Nat} (k : M.1 0 27 = nI w) (hw : w ≤ 200) : ∀ d i n, i + d = w → d < n → ∃ b, wloop (fun t : Int32 => l_X8_isInside_2 M t) n (nI i) = some (if b = true then .inr true else .inl ()) ∧ (b = true ↔ ∃ q, i ≤ q ∧ q < w ∧ M.1 24 q = 1) := by
  intro d
  induction d with
  | zero =>
    intro i n hi hn
    obtain ⟨n, rfl⟩ : ∃ k, n = k + 1 := ⟨n - 1, by omega⟩
    refine ⟨false, wl_en (f := fun t : Int32 => l_X8_isInside_2 M t) ?_, fun z => (by cases z), fun ⟨q, q1, q2, q3⟩ => by omega⟩
    show l_X8_isInside_2 M (nI i) = _
    unfold l_X8_isInside_2
    rw [k, if_pos (by rw [nI_leI (by omega) (by omega)]; omega)]
    rfl
  | succ d ih =>
    intro i n hi hn
    obtain ⟨n, rfl⟩ : ∃ k, n = k + 1 := ⟨n - 1, by omega⟩
    have hs : l_X8_isInside_2 M (nI i) = if M.1 24 i = 1 then some (.inr (.inr true)) else some (.inl (nI (i + 1))) := by
      unfold l_X8_isInside_2
      rw [k, if_neg (by rw [nI_leI (by omega) (by omega)]; omega), if_pos (by rw [nI_toInt (by omega)]; omega), nI_clamp (by omega), nI_1]
      rfl
    by_cases c : M.1 24 i = 1
    · rw [if_pos c] at hs
      exact ⟨true, wl_en (f := fun t : Int32 => l_X8_isInside_2 M t) hs, fun _ => ⟨i, Nat.le_refl i, by omega, c⟩, fun _ => rfl⟩
    · rw [if_neg c] at hs
      obtain ⟨b, b1, b2⟩ := ih (i + 1) n (by omega) (by omega)
      refine ⟨b, (wl_st (f := fun t : Int32 => l_X8_isInside_2 M t) hs).trans b1, b2.trans ⟨fun ⟨q, q1, q2, q3⟩ => ⟨q, by omega, q2, q3⟩, fun ⟨q, q1, q2, q3⟩ => ⟨q, ?_, q2, q3⟩⟩⟩
      by_cases z : q = i
      · subst z; exact absurd q3 c
      · omega
theorem inside {w : Nat} (k : M.1 0 27 = nI w) (hw : w ≤ 200) : ∃ b, f_X8_isInside 1000 M = some b ∧ (b = true ↔ ∃ q, q < w ∧ M.1 24 q = 1) := by
  obtain ⟨b, b1, b2⟩ := inside_ok k hw w 0 1000 (by omega) (by omega)
  have b1 : wloop (fun t : Int32 => l_X8_isInside_2 M t) 1000 0 = some (if b = true then .inr true else .inl ()) := b1
  unfold f_X8_isInside
  rw [b1, ob_some]
  refine ⟨b, ?_, b2.trans ⟨fun ⟨q, q1, q2, q3⟩ => ⟨q, q2, q3⟩, fun ⟨q, q2, q3⟩ => ⟨q, Nat.zero_le q, q2, q3⟩⟩⟩
  cases b with
  | true => rfl
  | false => rfl
end QSTEP
