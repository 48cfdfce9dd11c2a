/-! QUERY 12: the codes are run -/
section HOLD
variable {N : Nat → Int32} {S : Nat → Int64} {k : Nat} {f : Nat → Int32}
theorem ex_len (c : Int32) (s : List Int32) : s.length ≤ (ex1 N S k c s).length + 1 := by
  unfold ex1
  by_cases h1 : c = 23
  · rw [if_pos h1]
    cases s with
    | nil => exact Nat.zero_le _
    | cons a t => exact Nat.le_succ _
  · rw [if_neg h1]
    by_cases h2 : f_X8_in c.toInt64 20 25 = true
    · rw [if_pos h2]
      cases s with
      | nil => exact Nat.zero_le _
      | cons a t =>
        cases t with
        | nil => exact Nat.le_add_left 1 _
        | cons b t => exact Nat.le_refl _
    · rw [if_neg h2]
      by_cases h3 : c < 100
      · rw [if_pos h3]; exact Nat.le_trans (Nat.le_succ _) (Nat.le_succ _)
      · rw [if_neg h3]; exact Nat.le_trans (Nat.le_succ _) (Nat.le_succ _)
theorem ex_lens {i : Nat} {s : List Int32} : ∀ j, (exN N S k f 0 i s).length ≤ (exN N S k f 0 (i + j) s).length + j := by
  intro j
  induction j with
  | zero => exact Nat.le_refl _
  | succ j ih =>
    have h := ex_len (N := N) (S := S) (k := k) (f (0 + (i + j))) (exN N S k f 0 (i + j) s)
    have e : exN N S k f 0 (i + (j + 1)) s = ex1 N S k (f (0 + (i + j))) (exN N S k f 0 (i + j) s) := rfl
    rw [e]
    omega
def SRp : List Int32 → RowS → Prop
  | [], _ => True
  | a :: t, M => M.1 25 t.length = a ∧ SRp t M
theorem srp_eq {M M' : RowS} : ∀ l : List Int32, (∀ j, j < l.length → M'.1 25 j = M.1 25 j) → SRp l M → SRp l M' := by
  intro l
  induction l with
  | nil => intro _ _; trivial
  | cons a t ih =>
    intro h hs
    exact ⟨by rw [h t.length (Nat.lt_succ_self _)]; exact hs.1, ih (fun j hj => h j (Nat.lt_succ_of_lt hj)) hs.2⟩
def HFr (M M1 : RowS) : Prop := (∀ c, c ≠ 25 → M1.1 c = M.1 c) ∧ M1.2 = M.2
theorem hfr_si {M M1 : RowS} {i : Nat} {v : Int32} (h : HFr M M1) : HFr M (si M1 25 i v) := ⟨fun c hc => by rw [si_c hc]; exact h.1 c hc, h.2⟩
theorem holds_step {M M1 : RowS} {i C : Nat} {l : List Int32} (h : wfN (M.1 1)) (hS : wfS (M.1 1) (M.2 5)) (hk : k < cnt (M.1 1)) (hC : M.1 0 26 = nI C) (hCb : C ≤ 200) (hi : i < C) (hf : HFr M M1) (hl : SRp l M1) (hli : l.length ≤ i) (hnu : (ex1 (M.1 1) (M.2 5) k (M.1 23 i) l).length < 300) : ∃ M2, l_X8_holds_4 1000 (nI k) (nI l.length) (nI i) M1 = some (.inl (nI (ex1 (M.1 1) (M.2 5) k (M.1 23 i) l).length, nI (i + 1), M2)) ∧ HFr M M2 ∧ SRp (ex1 (M.1 1) (M.2 5) k (M.1 23 i) l) M2 ∧ (ex1 (M.1 1) (M.2 5) k (M.1 23 i) l).length ≤ i + 1 := by
  have f0 : M1.1 0 = M.1 0 := hf.1 0 (by decide)
  have f23 : M1.1 23 = M.1 23 := hf.1 23 (by decide)
  have f1 : M1.1 1 = M.1 1 := hf.1 1 (by decide)
  have ii : 0 ≤ (nI i).toInt ∧ (nI i).toInt < 200 := by rw [nI_toInt (by omega)]; omega
  unfold l_X8_holds_4
  rw [f0, hC, if_neg (by rw [nI_leI (by omega) (by omega)]; omega), if_pos ii, nI_clamp (by omega), f23, lt_eq]
  generalize hc : M.1 23 i = c at hnu ⊢
  unfold ex1 at hnu ⊢
  by_cases h1 : c = 23
  · rw [if_pos h1] at hnu
    rw [if_pos h1, if_pos h1]
    cases l with
    | nil =>
      have : (List.replicate 1000 (0 : Int32)).length < 300 := hnu
      rw [List.length_replicate] at this
      omega
    | cons a t =>
      have hle : t.length + 1 ≤ i := hli
      have e1 : nI (a :: t).length - 1 = nI t.length := by
        show nI (t.length + 1) - 1 = _
        rw [show (1 : Int32) = nI 1 from rfl, pk_sub (by omega), Nat.add_sub_cancel]
      have it : 0 ≤ (nI t.length).toInt ∧ (nI t.length).toInt < 200 := by rw [nI_toInt (by omega)]; omega
      rw [e1, if_pos it, if_pos it, nI_clamp (by omega), hl.1, lt_eq]
      unfold b_X8_holds_135
      rw [nI_1]
      refine ⟨si M1 25 t.length (1 - a), rfl, hfr_si hf, ⟨si_at, srp_eq t (fun j hj => si_ne (Or.inr (by omega))) hl.2⟩, ?_⟩
      show t.length + 1 ≤ i + 1
      omega
  · rw [if_neg h1] at hnu
    rw [if_neg h1, if_neg h1, lt_eq]
    by_cases h2 : f_X8_in c.toInt64 20 25 = true
    · rw [if_pos h2] at hnu
      rw [if_pos h2, if_pos h2]
      cases l with
      | nil =>
        have : (List.replicate 1000 (0 : Int32)).length < 300 := hnu
        rw [List.length_replicate] at this
        omega
      | cons b t =>
        cases t with
        | nil =>
          have : (List.replicate 1000 (0 : Int32)).length < 300 := hnu
          rw [List.length_replicate] at this
          omega
        | cons a t =>
          have hle : t.length + 1 + 1 ≤ i := hli
          have e1 : nI (b :: a :: t).length + (-1) = nI (t.length + 1) := by
            show nI (t.length + 1 + 1) + (-1) = _
            apply i32_eq
            rw [i32_add (by rw [nI_toInt (by omega), show (-1 : Int32).toInt = -1 from rfl]; omega), nI_toInt (by omega), nI_toInt (by omega), show (-1 : Int32).toInt = -1 from rfl]
            omega
          have e2 : nI (t.length + 1) - 1 = nI t.length := by rw [show (1 : Int32) = nI 1 from rfl, pk_sub (by omega), Nat.add_sub_cancel]
          have it : 0 ≤ (nI t.length).toInt ∧ (nI t.length).toInt < 200 := by rw [nI_toInt (by omega)]; omega
          have it1 : 0 ≤ (nI (t.length + 1)).toInt ∧ (nI (t.length + 1)).toInt < 200 := by rw [nI_toInt (by omega)]; omega
          have hb : M1.1 25 (t.length + 1) = b := hl.1
          have ha : M1.1 25 t.length = a := hl.2.1
          unfold b_X8_holds_100 b_X8_holds_135
          rw [lt_eq (a := nI (b :: a :: t).length + (-1)), e1, e2, if_pos it, if_pos it1, nI_clamp (by omega), nI_clamp (by omega), ha, hb, lt_eq, if_pos it, if_pos it, nI_1]
          cases hj : f_X8_joined c a b with
          | true =>
            rw [if_pos rfl]
            refine ⟨si M1 25 t.length 1, rfl, hfr_si hf, ⟨by rw [hj]; exact si_at, srp_eq t (fun j hj => si_ne (Or.inr (by omega))) hl.2.2⟩, ?_⟩
            show t.length + 1 ≤ i + 1
            omega
          | false =>
            rw [if_neg (by decide)]
            refine ⟨si M1 25 t.length 0, rfl, hfr_si hf, ⟨by rw [hj]; exact si_at, srp_eq t (fun j hj => si_ne (Or.inr (by omega))) hl.2.2⟩, ?_⟩
            show t.length + 1 ≤ i + 1
            omega
    · rw [if_neg h2, if_neg h2]
      have il : 0 ≤ (nI l.length).toInt ∧ (nI l.length).toInt < 200 := by rw [nI_toInt (by omega)]; omega
      unfold b_X8_holds_131 b_X8_holds_135
      by_cases h3 : c < 100
      · have hp := m_prop (M := M1) (by rw [f1]; exact h) (by rw [f1, hf.2]; exact hS) (k := k) (by rw [f1]; exact hk) c
        rw [f1, hf.2] at hp
        rw [if_pos h3, if_pos h3, hp, ob_some, if_pos il, nI_clamp (by omega), lt_eq, nI_1, nI_1]
        refine ⟨si M1 25 l.length _, rfl, hfr_si hf, ⟨si_at, srp_eq l (fun j hj => si_ne (Or.inr (by omega))) hl⟩, ?_⟩
        show l.length + 1 ≤ i + 1
        omega
      · rw [if_neg h3, if_neg h3, if_pos il, nI_clamp (by omega), lt_eq, nI_1, nI_1]
        refine ⟨si M1 25 l.length _, rfl, hfr_si hf, ⟨si_at, srp_eq l (fun j hj => si_ne (Or.inr (by omega))) hl⟩, ?_⟩
        show l.length + 1 ≤ i + 1
        omega
theorem holds_ok {M : RowS} {C : Nat} {b : Bool} (h : wfN (M.1 1)) (hS : wfS (M.1 1) (M.2 5)) (hk : k < cnt (M.1 1)) (hC : M.1 0 26 = nI C) (hCb : C ≤ 200) (hx : exN (M.1 1) (M.2 5) k (M.1 23) 0 C [] = [b2i b]) : ∃ M', f_X8_holds 1000 M (nI k) = some (b, M') ∧ HFr M M' := by
  obtain ⟨M', r1, r2, r3⟩ := wl_rel (f := fun t : Int32 × Int32 × RowS => l_X8_holds_4 1000 (nI k) t.1 t.2.1 t.2.2) (fun i s => s.1 = nI (exN (M.1 1) (M.2 5) k (M.1 23) 0 i []).length ∧ s.2.1 = nI i ∧ HFr M s.2.2 ∧ SRp (exN (M.1 1) (M.2 5) k (M.1 23) 0 i []) s.2.2 ∧ (exN (M.1 1) (M.2 5) k (M.1 23) 0 i []).length ≤ i) (fun r => HFr M r ∧ SRp [b2i b] r) C (fun i s hi hs => by
    obtain ⟨z, y, M1⟩ := s
    obtain ⟨g1, g2, g3, g4, g5⟩ := hs
    simp only at g1 g2 g3 g4
    subst g1 g2
    have e : exN (M.1 1) (M.2 5) k (M.1 23) 0 (i + 1) [] = ex1 (M.1 1) (M.2 5) k (M.1 23 i) (exN (M.1 1) (M.2 5) k (M.1 23) 0 i []) := by
      show ex1 (M.1 1) (M.2 5) k (M.1 23 (0 + i)) _ = _
      rw [Nat.zero_add]
    have hlen := ex_lens (N := M.1 1) (S := M.2 5) (k := k) (f := M.1 23) (i := i + 1) (s := []) (C - (i + 1))
    rw [show i + 1 + (C - (i + 1)) = C by omega, hx, e] at hlen
    have hlen : (ex1 (M.1 1) (M.2 5) k (M.1 23 i) (exN (M.1 1) (M.2 5) k (M.1 23) 0 i [])).length ≤ 1 + (C - (i + 1)) := hlen
    obtain ⟨M2, s1, s2, s3, s4⟩ := holds_step h hS hk hC hCb hi g3 g4 g5 (by omega)
    refine ⟨_, s1, ?_⟩
    show _ = _ ∧ _
    rw [e]
    exact ⟨rfl, rfl, s2, s3, s4⟩) (fun s hs => by
    obtain ⟨z, y, M1⟩ := s
    obtain ⟨g1, g2, g3, g4, g5⟩ := hs
    simp only at g1 g2 g3 g4
    subst g1 g2
    rw [hx] at g4
    refine ⟨M1, ?_, g3, g4⟩
    show l_X8_holds_4 1000 (nI k) _ (nI C) M1 = _
    unfold l_X8_holds_4
    rw [g3.1 0 (by decide), hC, if_pos (by rw [nI_leI (by omega) (by omega)]; omega)]) C 0 1000 (0, 0, M) (by omega) (by omega) ⟨rfl, rfl, ⟨fun _ _ => rfl, rfl⟩, trivial, Nat.le_refl _⟩
  have r1 : wloop (fun t : Int32 × Int32 × RowS => l_X8_holds_4 1000 (nI k) t.1 t.2.1 t.2.2) 1000 (0, 0, M) = some M' := r1
  unfold f_X8_holds b_X8_holds_141
  rw [r1, ob_some, if_pos (by decide), show (0 : Int32).toNatClampNeg = 0 from rfl]
  have h0 : M'.1 25 0 = b2i b := r3.1
  rw [h0]
  refine ⟨M', ?_, r2⟩
  cases b with
  | true => rfl
  | false => rfl
end HOLD
