/-! QUERY 5: a comparison -/
section QCMP
variable {e : Nat} {G : GlbS} {M : RowS} {R : RowS} {N : Nat → Int32} {S : Nat → Int64}
def opc (x4 x5 : Bool) : Int32 := if x4 = true then 20 else if x5 = true then 22 else 21
theorem join_20 {a b : Int32} : f_X8_joined 20 a b = if b ≤ a then false else true := by unfold f_X8_joined; rw [if_pos rfl]
theorem join_21 {a b : Int32} : f_X8_joined 21 a b = if a = b then true else false := by unfold f_X8_joined; rw [if_neg (by decide), if_pos rfl]
theorem join_22 {a b : Int32} : f_X8_joined 22 a b = if a ≤ b then false else true := by unfold f_X8_joined; rw [if_neg (by decide), if_neg (by decide), if_pos rfl]
theorem join_24 {a b : Int32} : f_X8_joined 24 a b = if a + b = 2 then true else false := by unfold f_X8_joined; rw [if_neg (by decide), if_neg (by decide), if_neg (by decide), if_neg (by decide), if_pos rfl]
theorem join_25 {a b : Int32} : f_X8_joined 25 a b = if a + b ≤ 0 then false else true := by unfold f_X8_joined; rw [if_neg (by decide), if_neg (by decide), if_neg (by decide), if_neg (by decide), if_neg (by decide)]
theorem c_cmp1 {x4 x5 : Bool} {t1 t2 : Int32} {k : Nat} {z : Int32} {u v : Int32} (hk : k < 12) (hn : ¬ R.1 0 2 ≤ nI k) (h1 : f_X2_valueFor R G (nI k) t1 = u) (h2 : f_X2_valueFor R G (nI k) t2 = v) : l_X2_comparison_64 R t1 x4 x5 G t2 z (nI k) = some (.inl (if f_X8_joined (opc x4 x5) u v = true then z ||| ((1 : Int32) <<< (nI k &&& 31)) else z, nI (k + 1))) := by
  have d0 : (0 : Int32) ≤ 0 := by decide
  have d1 : (0 : Int32) ≤ 1 := by decide
  have d2 : ¬ (0 : Int32) ≤ -1 := by decide
  have d3 : ¬ (1 : Int32) ≤ 0 := by decide
  have d4 : (-1 : Int32) ≤ 0 := by decide
  have d5 : ¬ (1 : Int32) = 0 := by decide
  have d6 : ¬ (-1 : Int32) = 0 := by decide
  have d7 : (0 : Int32) = 0 := rfl
  unfold l_X2_comparison_64 b_X2_comparison_125 b_X2_comparison_134 f_J6_compare_7cf53 opc
  rw [if_neg hn, h1, h2]
  simp only [lt, nI_1]
  by_cases d : u = v
  · subst d
    have c : u ≤ u := by rw [i32_le]; omega
    have e0 : (if u ≤ u then if u = u then (0 : Int32) else 1 else -1) = 0 := by rw [if_pos c, if_pos rfl]
    rw [e0]
    cases x4 with
    | true => rw [tt_t, tt_t, if_pos d0, join_20, if_pos c, ff_t]
    | false =>
      rw [ff_t, ff_t]
      cases x5 with
      | true => rw [tt_t, tt_t, if_pos d0, join_22, if_pos c, ff_t]
      | false => rw [ff_t, ff_t, if_pos d7, join_21, if_pos rfl, tt_t]
  · by_cases c : v ≤ u
    · have e0 : (if v ≤ u then if u = v then (0 : Int32) else 1 else -1) = 1 := by rw [if_pos c, if_neg d]
      have c' : ¬ u ≤ v := fun q => d (i32_eq (by rw [i32_le] at c q; omega))
      rw [e0]
      cases x4 with
      | true => rw [tt_t, tt_t, if_pos d1, join_20, if_pos c, ff_t]
      | false =>
        rw [ff_t, ff_t]
        cases x5 with
        | true => rw [tt_t, tt_t, if_neg d3, join_22, if_neg c', tt_t]
        | false => rw [ff_t, ff_t, if_neg d5, join_21, if_neg d, ff_t]
    · have e0 : (if v ≤ u then if u = v then (0 : Int32) else 1 else -1) = -1 := by rw [if_neg c]
      have c' : u ≤ v := by rw [i32_le] at c ⊢; omega
      rw [e0]
      cases x4 with
      | true => rw [tt_t, tt_t, if_neg d2, join_20, if_neg c, tt_t]
      | false =>
        rw [ff_t, ff_t]
        cases x5 with
        | true => rw [tt_t, tt_t, if_pos d4, join_22, if_pos c', ff_t]
        | false => rw [ff_t, ff_t, if_neg d6, join_21, if_neg d, ff_t]
theorem c_cmp {x4 x5 : Bool} {t1 t2 : Int32} {n : Nat} {u v : Nat → Int32} (hn : n ≤ 12) (h2 : R.1 0 2 = nI n) (h3 : ∀ k, k < n → f_X2_valueFor R G (nI k) t1 = u k) (h4 : ∀ k, k < n → f_X2_valueFor R G (nI k) t2 = v k) : ∃ held, wloop (fun t : Int32 × Int32 => l_X2_comparison_64 R t1 x4 x5 G t2 t.1 t.2) 1000 (0, 0) = some held ∧ HB held (fun k => f_X8_joined (opc x4 x5) (u k) (v k)) n := by
  exact wl_rel (f := fun t : Int32 × Int32 => l_X2_comparison_64 R t1 x4 x5 G t2 t.1 t.2) (fun i s => s.2 = nI i ∧ HB s.1 (fun k => f_X8_joined (opc x4 x5) (u k) (v k)) i) (fun r => HB r (fun k => f_X8_joined (opc x4 x5) (u k) (v k)) n) n (fun i s hi hs => by
    obtain ⟨z, y⟩ := s
    obtain ⟨g1, g2⟩ := hs
    simp only at g1 g2
    subst g1
    refine ⟨_, c_cmp1 (by omega) (by rw [h2, nI_leI (by omega) (by omega)]; omega) (h3 i hi) (h4 i hi), rfl, ?_⟩
    cases hb : f_X8_joined (opc x4 x5) (u i) (v i) with
    | true => rw [if_pos rfl]; exact hb_t g2 (by omega) hb
    | false => rw [if_neg (by decide)]; exact hb_f g2 hb) (fun s hs => by
    obtain ⟨z, y⟩ := s
    obtain ⟨g1, g2⟩ := hs
    simp only at g1 g2
    subst g1
    refine ⟨z, ?_, g2⟩
    show l_X2_comparison_64 R t1 x4 x5 G t2 z (nI n) = _
    unfold l_X2_comparison_64
    rw [h2, if_pos (by rw [nI_leI (by omega) (by omega)]; omega)]) n 0 1000 (0, 0) (by omega) (by omega) ⟨rfl, hb_0⟩
theorem cx_cmp52 {s p n : Nat} {x4 x5 : Bool} {t1 : Int32} (h : CP e s p G) (h7 : ¬ G 3 7 = 0) (hn : n ≤ 12) (h2 : R.1 0 2 = nI n) : ∃ held G', b_X2_comparison_52 1000 R t1 x4 x5 G = some (held, G') ∧ CX e G G' := by
  obtain ⟨t2, G', a1, a2⟩ := cx_operand (R := R) h h7
  obtain ⟨held, b1, b2⟩ := c_cmp (x4 := x4) (x5 := x5) (t1 := t1) (t2 := t2) (G := G') hn h2 (fun _ _ => rfl) (fun _ _ => rfl)
  unfold b_X2_comparison_52
  rw [a1, ob_some, lt_eq, lt_eq, b1]
  exact ⟨held, G', rfl, a2⟩
theorem cx_cmp_rest {s p n : Nat} {t1 : Int32} (h : CP e s p G) (h7 : ¬ G 3 7 = 0) (hn : n ≤ 12) (h2 : R.1 0 2 = nI n) : ∃ held G', (if f_X5_isSign G 60 = true then b_X2_comparison_33 1000 R t1 (f_X5_isSign G 60) (f_X5_isSign G 62) G else if f_X5_isSign G 62 = true then b_X2_comparison_33 1000 R t1 (f_X5_isSign G 60) (f_X5_isSign G 62) G else ob (f_X5_takeSign 1000 G 61) fun x24 => lt (x24) fun Gv25 => b_X2_comparison_52 1000 R t1 (f_X5_isSign G 60) (f_X5_isSign G 62) Gv25) = some (held, G') ∧ CX e G G' := by
  have adv : ∃ held G', b_X2_comparison_33 1000 R t1 (f_X5_isSign G 60) (f_X5_isSign G 62) G = some (held, G') ∧ CX e G G' := by
    obtain ⟨G1, a1, a2⟩ := cx_adv h
    obtain ⟨s1, p1, h1⟩ := a2.2.2.2
    obtain ⟨held, G', b1, b2⟩ := cx_cmp52 (x4 := f_X5_isSign G 60) (x5 := f_X5_isSign G 62) (t1 := t1) h1 (by rw [a2.2.1]; exact h7) hn h2
    unfold b_X2_comparison_33
    rw [a1, ob_some, lt_eq, b1]
    exact ⟨held, G', rfl, cx_t a2 b2⟩
  by_cases c4 : f_X5_isSign G 60 = true
  · rw [if_pos c4]; exact adv
  · rw [if_neg c4]
    by_cases c5 : f_X5_isSign G 62 = true
    · rw [if_pos c5]; exact adv
    · rw [if_neg c5]
      obtain ⟨G1, a1, a2⟩ := cx_takeSign h h7 61
      obtain ⟨s1, p1, h1⟩ := a2.2.2.2
      obtain ⟨held, G', b1, b2⟩ := cx_cmp52 (x4 := f_X5_isSign G 60) (x5 := f_X5_isSign G 62) (t1 := t1) h1 (by rw [a2.2.1]; exact h7) hn h2
      rw [a1, ob_some, lt_eq, b1]
      exact ⟨held, G', rfl, cx_t a2 b2⟩
end QCMP
