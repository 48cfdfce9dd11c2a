/-! QUERY 13: how many, which first -/
def cntB (β : Nat → Bool) : Nat → Nat
  | 0 => 0
  | n + 1 => cntB β n + (if β n = true then 1 else 0)
def lowN (β : Nat → Bool) : Nat → Nat → Int32
  | 0, _ => -1
  | d + 1, i => if β i = true then nI i else lowN β d (i + 1)
theorem bc_sq : ∀ a b : Fin 64, f_J6_bitCount_0f7a4 (nI (64 * a.val + b.val)) = nI (cntB (fun i => (64 * a.val + b.val).testBit i) 12) := by decide +kernel
theorem lb_sq : ∀ a b : Fin 64, ∀ k : Fin 12, decide (((nI (64 * a.val + b.val) >>> (nI k.val &&& 31)) &&& 1) = 1) = (64 * a.val + b.val).testBit k.val := by decide +kernel
theorem bc_all {H : Nat} (h : H < 4096) : f_J6_bitCount_0f7a4 (nI H) = nI (cntB (fun i => H.testBit i) 12) := by
  have := bc_sq ⟨H / 64, by omega⟩ ⟨H % 64, by omega⟩
  simp only [Nat.div_add_mod] at this
  exact this
theorem lb_all {H : Nat} (h : H < 4096) {k : Nat} (hk : k < 12) : decide (((nI H >>> (nI k &&& 31)) &&& 1) = 1) = H.testBit k := by
  have := lb_sq ⟨H / 64, by omega⟩ ⟨H % 64, by omega⟩ ⟨k, hk⟩
  simp only [Nat.div_add_mod] at this
  exact this
theorem cntB_cg {β γ : Nat → Bool} : ∀ n, (∀ i, i < n → γ i = β i) → cntB γ n = cntB β n := by
  intro n
  induction n with
  | zero => intro _; rfl
  | succ n ih =>
    intro h
    rw [cntB, cntB, h n (by omega), ih (fun i hi => h i (by omega))]
theorem cntB_ext {β γ : Nat → Bool} {n : Nat} : ∀ j, (∀ i, i < n → γ i = β i) → (∀ i, n ≤ i → i < n + j → γ i = false) → cntB γ (n + j) = cntB β n := by
  intro j
  induction j with
  | zero =>
    intro h _
    exact cntB_cg n h
  | succ j ih =>
    intro h h2
    show cntB γ (n + j) + (if γ (n + j) = true then 1 else 0) = _
    rw [ih h (fun i a b => h2 i a (by omega)), h2 (n + j) (by omega) (by omega), if_neg (by decide), Nat.add_zero]
theorem lowN_f {γ : Nat → Bool} : ∀ j i, (∀ q, i ≤ q → q < i + j → γ q = false) → lowN γ j i = -1 := by
  intro j
  induction j with
  | zero => intro i _; rfl
  | succ j ih =>
    intro i h
    show (if γ i = true then nI i else lowN γ j (i + 1)) = -1
    rw [h i (by omega) (by omega), if_neg (by decide)]
    exact ih (i + 1) (fun q a b => h q (by omega) (by omega))
theorem lowN_ext {β γ : Nat → Bool} {j : Nat} : ∀ d i, (∀ q, i ≤ q → q < i + d → γ q = β q) → (∀ q, i + d ≤ q → q < i + d + j → γ q = false) → lowN γ (d + j) i = lowN β d i := by
  intro d
  induction d with
  | zero =>
    intro i _ h
    rw [Nat.zero_add]
    exact lowN_f j i (fun q a b => h q (by omega) (by omega))
  | succ d ih =>
    intro i h h2
    rw [show d + 1 + j = (d + j) + 1 by omega]
    show (if γ i = true then nI i else lowN γ (d + j) (i + 1)) = if β i = true then nI i else lowN β d (i + 1)
    rw [h i (by omega) (by omega), ih (i + 1) (fun q a b => h q (by omega) (by omega)) (fun q a b => h2 q (by omega) (by omega))]
theorem hb_nat {x : Int32} {β : Nat → Bool} {n : Nat} (h : HB x β n) (hn : n ≤ 12) : ∃ H, H < 4096 ∧ x = nI H ∧ ∀ i, i < 32 → H.testBit i = (decide (i < n) && β i) := by
  refine ⟨x.toBitVec.toNat, ?_, ?_, fun i hi => h i hi⟩
  · refine Nat.lt_pow_two_of_testBit (n := 12) _ (fun i hi => ?_)
    by_cases c : i < 32
    · have := h i c
      rw [decide_eq_false (by omega), Bool.false_and] at this
      exact this
    · exact BitVec.getLsbD_of_ge x.toBitVec i (by omega)
  · apply Int32.toBitVec_inj.mp
    show x.toBitVec = BitVec.ofNat 32 x.toBitVec.toNat
    rw [BitVec.ofNat_toNat, BitVec.setWidth_eq]
theorem c_count {x : Int32} {β : Nat → Bool} {n : Nat} (h : HB x β n) (hn : n ≤ 12) : f_J6_bitCount_0f7a4 x = nI (cntB β n) := by
  obtain ⟨H, h1, h2, h3⟩ := hb_nat h hn
  rw [h2, bc_all h1]
  have := cntB_ext (β := β) (γ := fun i => H.testBit i) (n := n) (12 - n) (fun i hi => by show H.testBit i = _; rw [h3 i (by omega), decide_eq_true hi, Bool.true_and]) (fun i a b => by show H.testBit i = _; rw [h3 i (by omega), decide_eq_false (by omega), Bool.false_and])
  rw [show n + (12 - n) = 12 by omega] at this
  rw [this]
theorem c_low {x : Int32} {β : Nat → Bool} {n : Nat} (h : HB x β n) (hn : n ≤ 12) : f_X7_lowestBit 1000 x = some (lowN β n 0) := by
  obtain ⟨H, h1, h2, h3⟩ := hb_nat h hn
  have key : ∀ d i m, i + d = 12 → d < m → ob (wloop (fun t : Int32 => l_X7_lowestBit_2 x t) m (nI i)) (fun t => match t with | .inl t => b_X7_lowestBit_25 | .inr r => some r) = some (lowN (fun i => H.testBit i) d i) := by
    intro d
    induction d with
    | zero =>
      intro i m hi hm
      obtain ⟨m, rfl⟩ : ∃ k, m = k + 1 := ⟨m - 1, by omega⟩
      have hs : l_X7_lowestBit_2 x (nI i) = some (.inr (.inl ())) := by
        unfold l_X7_lowestBit_2
        rw [if_pos (by rw [show (12 : Int32) = nI 12 from rfl, nI_leI (by omega) (by omega)]; omega)]
      rw [wl_en (f := fun t : Int32 => l_X7_lowestBit_2 x t) hs]
      rfl
    | succ d ih =>
      intro i m hi hm
      obtain ⟨m, rfl⟩ : ∃ k, m = k + 1 := ⟨m - 1, by omega⟩
      have hb := lb_all h1 (k := i) (by omega)
      have hs : l_X7_lowestBit_2 x (nI i) = if H.testBit i = true then some (.inr (.inr (nI i))) else some (.inl (nI (i + 1))) := by
        unfold l_X7_lowestBit_2
        rw [if_neg (by rw [show (12 : Int32) = nI 12 from rfl, nI_leI (by omega) (by omega)]; omega), h2, ← hb, nI_1]
        by_cases c : ((nI H >>> (nI i &&& 31)) &&& 1) = 1
        · rw [if_pos c, if_pos (decide_eq_true c)]
        · rw [if_neg c, if_neg (by rw [decide_eq_false c]; decide)]
          rfl
      show _ = some (if H.testBit i = true then nI i else lowN (fun i => H.testBit i) d (i + 1))
      by_cases c : H.testBit i = true
      · rw [if_pos c] at hs
        rw [if_pos c, wl_en (f := fun t : Int32 => l_X7_lowestBit_2 x t) hs]
        rfl
      · rw [if_neg c] at hs
        rw [if_neg c, wl_st (f := fun t : Int32 => l_X7_lowestBit_2 x t) hs]
        exact ih (i + 1) m (by omega) (by omega)
  have k0 := key 12 0 1000 (by omega) (by omega)
  unfold f_X7_lowestBit
  have := lowN_ext (β := β) (γ := fun i => H.testBit i) (j := 12 - n) n 0 (fun i a b => by show H.testBit i = _; rw [h3 i (by omega), decide_eq_true (by omega), Bool.true_and]) (fun i a b => by show H.testBit i = _; rw [h3 i (by omega), decide_eq_false (by omega), Bool.false_and])
  rw [show n + (12 - n) = 12 by omega] at this
  rw [this] at k0
  exact k0
theorem m_qloop {M : RowS} {C : Nat} {β : Nat → Bool} (isF : Bool) (h : wfN (M.1 1)) (hS : wfS (M.1 1) (M.2 5)) (hC : M.1 0 26 = nI C) (hCb : C ≤ 200) (hx : ∀ k, k < cnt (M.1 1) → exN (M.1 1) (M.2 5) k (M.1 23) 0 C [] = [b2i (β k)]) : ∀ d i n M1, i + d = cnt (M.1 1) → d < n → HFr M M1 → ∃ M2, ob (wloop (fun t : Int32 × Int32 × RowS => l_X8_query_90 1000 isF t.1 t.2.1 t.2.2) n (nI (cntB β i), nI i, M1)) (fun t => match t with | .inl t => b_X8_query_129 isF t.1 t.2 | .inr r => some r) = some (if isF = true then lowN β d i else nI (cntB β (i + d)), M2) ∧ HFr M M2 := by
  have hcn := cnt_le h
  have e2 : (2 : Int32).toNatClampNeg = 2 := rfl
  intro d
  induction d with
  | zero =>
    intro i n M1 hi hn hf
    obtain ⟨n, rfl⟩ : ∃ k, n = k + 1 := ⟨n - 1, by omega⟩
    have hs : l_X8_query_90 1000 isF (nI (cntB β i)) (nI i) M1 = some (.inr (.inl (nI (cntB β i), M1))) := by
      unfold l_X8_query_90
      rw [if_pos (by decide), e2, hf.1 1 (by decide), n2 h, if_pos (by rw [nI_leI (by omega) (by omega)]; omega)]
    rw [wl_en (f := fun t : Int32 × Int32 × RowS => l_X8_query_90 1000 isF t.1 t.2.1 t.2.2) (s := (nI (cntB β i), nI i, M1)) hs, ob_some]
    refine ⟨M1, ?_, hf⟩
    cases isF with
    | true => rfl
    | false => rfl
  | succ d ih =>
    intro i n M1 hi hn hf
    obtain ⟨n, rfl⟩ : ∃ k, n = k + 1 := ⟨n - 1, by omega⟩
    have f1 : M1.1 1 = M.1 1 := hf.1 1 (by decide)
    obtain ⟨M2, k1, k2⟩ := holds_ok (M := M1) (C := C) (k := i) (b := β i) (by rw [f1]; exact h) (by rw [f1, hf.2]; exact hS) (by rw [f1]; omega) (by rw [hf.1 0 (by decide)]; exact hC) hCb (by rw [f1, hf.2, hf.1 23 (by decide)]; exact hx i (by omega))
    have hf2 : HFr M M2 := ⟨fun c hc => (k2.1 c hc).trans (hf.1 c hc), k2.2.trans hf.2⟩
    have hs : l_X8_query_90 1000 isF (nI (cntB β i)) (nI i) M1 = if β i = true then (if isF = true then some (.inr (.inr (nI i, M2))) else some (.inl (nI (cntB β (i + 1)), nI (i + 1), M2))) else some (.inl (nI (cntB β (i + 1)), nI (i + 1), M2)) := by
      unfold l_X8_query_90 b_X8_query_123
      rw [if_pos (by decide), e2, f1, n2 h, if_neg (by rw [nI_leI (by omega) (by omega)]; omega), k1, ob_some, lt_eq, nI_1]
      have e : cntB β (i + 1) = cntB β i + (if β i = true then 1 else 0) := rfl
      rw [e]
      cases β i with
      | true => rw [if_pos rfl, if_pos rfl, if_pos rfl, nI_1]; rfl
      | false => rw [if_neg Bool.false_ne_true, if_neg Bool.false_ne_true, if_neg Bool.false_ne_true, Nat.add_zero, lt_eq, nI_1]
    show ∃ M2, _ = some (if isF = true then (if β i = true then nI i else lowN β d (i + 1)) else nI (cntB β (i + (d + 1))), M2) ∧ HFr M M2
    rw [show i + (d + 1) = (i + 1) + d by omega]
    by_cases c : β i = true
    · rw [if_pos c] at hs
      rw [if_pos c]
      cases isF with
      | true =>
        rw [if_pos rfl] at hs
        rw [wl_en (f := fun t : Int32 × Int32 × RowS => l_X8_query_90 1000 true t.1 t.2.1 t.2.2) (s := (nI (cntB β i), nI i, M1)) hs]
        exact ⟨M2, rfl, hf2⟩
      | false =>
        rw [if_neg (by decide)] at hs
        rw [wl_st (f := fun t : Int32 × Int32 × RowS => l_X8_query_90 1000 false t.1 t.2.1 t.2.2) (s := (nI (cntB β i), nI i, M1)) hs]
        exact ih (i + 1) n M2 (by omega) (by omega) hf2
    · rw [if_neg c] at hs
      rw [if_neg c, wl_st (f := fun t : Int32 × Int32 × RowS => l_X8_query_90 1000 isF t.1 t.2.1 t.2.2) (s := (nI (cntB β i), nI i, M1)) hs]
      exact ih (i + 1) n M2 (by omega) (by omega) hf2
