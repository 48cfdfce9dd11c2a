/-! QUERY 1: the model's reading as a machine -/
theorem lw_many : LW 19 4 257011 := by unfold LW; decide +kernel
theorem lw_first : LW 20 5 3379448 := by unfold LW; decide +kernel
theorem lw_not : LW 21 3 10631 := by unfold LW; decide +kernel
theorem lw_qtube : LW 22 4 409028 := by unfold LW; decide +kernel
theorem lw_qleg : LW 23 3 8890 := by unfold LW; decide +kernel
theorem lw_point : LW 24 5 8805260 := by unfold LW; decide +kernel
theorem lw_bore : LW 25 4 50792 := by unfold LW; decide +kernel
theorem lw_slant : LW 26 5 10334702 := by unfold LW; decide +kernel
theorem lw_length : LW 27 6 175125302 := by unfold LW; decide +kernel
theorem lw_state : LW 28 5 10492313 := by unfold LW; decide +kernel
theorem lw_column : LW 29 6 51270206 := by unfold LW; decide +kernel
theorem lw_qpress : LW 30 8 174421451741 := by unfold LW; decide +kernel
theorem lw_and : LW 31 3 1111 := by unfold LW; decide +kernel
theorem lw_or : LW 32 2 423 := by unfold LW; decide +kernel
theorem ob_none {α β : Type} {f : α → Option β} : ob (none : Option α) f = none := rfl
theorem ob_ob {α β γ : Type} {a : Option α} {f : α → Option β} {g : β → Option γ} : ob (ob a f) g = ob a fun x => ob (f x) g := by cases a <;> rfl
theorem wl_un {σ ρ : Type} {f : σ → Option (σ ⊕ ρ)} {n : Nat} {s : σ} : wloop f (n + 1) s = ob (f s) (fun r => match r with | .inl t => wloop f n t | .inr r => some r) := by
  cases h : f s with
  | none => simp only [wloop, h]; rfl
  | some r =>
    cases r with
    | inl t => rw [wl_st h]; rfl
    | inr r => rw [wl_en h]; rfl
def eL (o : Option (RowS ⊕ RowS)) : Option RowS := ob o (fun t => match t with | .inl t => b_X8_reads_124 1000 t | .inr r => some r)
def eNx (j : Nat) (r : (Int32 × RowS) ⊕ (RowS ⊕ RowS)) : Option RowS :=
  match r with
  | .inl t => eL (wloop (fun t : Int32 × RowS => l_X8_reads_20 1000 t.1 t.2) j t)
  | .inr r => eL (some r)
def qC (M : RowS) : Option ((Int32 × RowS) ⊕ (RowS ⊕ RowS)) :=
  lt (f_X8_isWord M 1111) fun x21 =>
  if x21 = true then
    b_X8_reads_71 1000 24 M
  else
    lt (f_X8_isWord M 423) fun x23 =>
    if x23 = true then
      b_X8_reads_71 1000 25 M
    else
      b_X8_reads_71 1000 0 M
def eC (j : Nat) (M : RowS) : Option RowS := ob (qC M) (eNx j)
def eB (h j : Nat) (M : RowS) : Option RowS := ob (wloop (fun t : RowS => l_X8_closes_5 1000 t) h M) fun x => eC j x
def eS (g h j : Nat) (M : RowS) : Option RowS := ob (wloop (fun t : RowS => l_X8_settles__0 3 t) g M) fun x => eB h j x
def eD (j : Nat) (M : RowS) : Option RowS := if f_X8_isGood M = true then eS 1000 1000 j M else some M
def eA (i j : Nat) (M : RowS) : Option RowS := ob (ob (wloop (fun t : RowS => l_X8_comparisonRead_0 1000 t) i M) (fun t => match t with | .inl t => b_X8_comparisonRead_43 1000 t | .inr r => some r)) fun x => eD j x
theorem e_loop {j : Nat} {z : Int32} {M : RowS} (hz : ¬ z = 0) : eL (wloop (fun t : Int32 × RowS => l_X8_reads_20 1000 t.1 t.2) (j + 1) (z, M)) = eA 1000 j M := by
  rw [wl_un]
  show eL (ob (l_X8_reads_20 1000 z M) _) = _
  unfold l_X8_reads_20
  rw [if_neg hz]
  unfold eA
  show eL (ob (ob (f_X8_comparisonRead 1000 M) _) _) = ob (f_X8_comparisonRead 1000 M) _
  cases f_X8_comparisonRead 1000 M with
  | none => rfl
  | some M1 =>
    rw [ob_some, ob_some, lt_eq, lt_eq]
    unfold eD
    cases f_X8_isGood M1 with
    | false => rw [if_neg (by decide), if_neg (by decide)]; rfl
    | true =>
      rw [if_pos rfl, if_pos rfl]
      have hc : f_X8_closes 1000 M1 = ob (wloop (fun t : RowS => l_X8_settles__0 3 t) 1000 M1) fun x => ob (wloop (fun t : RowS => l_X8_closes_5 1000 t) 1000 x) fun t => some t := by
        unfold f_X8_closes f_X8_settles_ b_X8_closes_58 b_X8_settles__82
        rw [ob_ob]
        cases wloop (fun t : RowS => l_X8_settles__0 3 t) 1000 M1 with
        | none => rfl
        | some x => rfl
      rw [hc]
      unfold eS
      cases wloop (fun t : RowS => l_X8_settles__0 3 t) 1000 M1 with
      | none => rfl
      | some M2 =>
        rw [ob_some, ob_some]
        unfold eB
        cases wloop (fun t : RowS => l_X8_closes_5 1000 t) 1000 M2 with
        | none => rfl
        | some M3 =>
          rw [ob_some, ob_some, ob_some]
          show eL (ob (qC M3) _) = eC j M3
          unfold eC
          cases qC M3 with
          | none => rfl
          | some r =>
            cases r with
            | inl t => rfl
            | inr r => rfl
/-- the end of an error is the error -/
theorem set_x {M : RowS} (h : ¬ M.1 0 19 = 0) (a : Int32) {n : Nat} : wloop (fun t : RowS => l_X8_settles__0 a t) (n + 1) M = some M := by
  refine wl_en (f := fun t : RowS => l_X8_settles__0 a t) ?_
  show l_X8_settles__0 a M = _
  unfold l_X8_settles__0
  rw [good_f h, lt_eq, if_neg (by decide)]
theorem sets_x {M : RowS} (h : ¬ M.1 0 19 = 0) (a : Int32) : f_X8_settles_ 1000 M a = some M := by
  unfold f_X8_settles_
  rw [set_x h a]
  rfl
theorem eD_x {j : Nat} {M : RowS} (h : ¬ M.1 0 19 = 0) : eD j M = some M := by
  unfold eD
  rw [good_f h, if_neg (by decide)]
/-- the stack of what waits, and the codes -/
def St (w c a : Nat) (M : RowS) : Prop := M.1 0 27 = nI w ∧ M.1 0 26 = nI c ∧ M.1 0 28 = nI a
/-- what reading a query may write -/
def MQf (M M' : RowS) : Prop := (∀ c, c ≠ 0 → c ≠ 23 → c ≠ 24 → M'.1 c = M.1 c) ∧ (∀ c, c ≠ 0 → M'.2 c = M.2 c) ∧ ∀ k, k ≠ 14 → k ≠ 15 → k ≠ 16 → k ≠ 17 → k ≠ 19 → k ≠ 20 → k ≠ 26 → k ≠ 27 → k ≠ 28 → M'.1 0 k = M.1 0 k
theorem mq_r {M : RowS} : MQf M M := ⟨fun _ _ _ _ => rfl, fun _ _ => rfl, fun _ _ _ _ _ _ _ _ _ _ => rfl⟩
theorem mq_t {A B C : RowS} (h : MQf A B) (k : MQf B C) : MQf A C := ⟨fun c h1 h2 h3 => (k.1 c h1 h2 h3).trans (h.1 c h1 h2 h3), fun c h1 => (k.2.1 c h1).trans (h.2.1 c h1), fun c h1 h2 h3 h4 h5 h6 h7 h8 h9 => (k.2.2 c h1 h2 h3 h4 h5 h6 h7 h8 h9).trans (h.2.2 c h1 h2 h3 h4 h5 h6 h7 h8 h9)⟩
theorem mf_q {M M' : RowS} (h : MF M M') : MQf M M' := ⟨fun c h0 _ _ => h.1 c h0, h.2.1, fun k h1 h2 h3 h4 h5 h6 _ _ _ => h.2.2 k h1 h2 h3 h4 h5 h6⟩
theorem mq_si {M : RowS} {c k : Nat} {v : Int32} (h : c = 23 ∨ c = 24 ∨ (c = 0 ∧ (k = 26 ∨ k = 27 ∨ k = 28))) : MQf M (si M c k v) := by
  refine ⟨fun d h1 h2 h3 => ?_, fun _ _ => rfl, fun j h1 h2 h3 h4 h5 h6 h7 h8 h9 => ?_⟩
  · exact si_c (by omega)
  · exact si_ne (by omega)
/-- tokens do not look at codes and what waits -/
theorem ts_si {e s p c k : Nat} {G : GlbS} {M : RowS} {v : Int32} (h : TS e s p G M) (hc : c = 23 ∨ c = 24 ∨ (c = 0 ∧ (k = 26 ∨ k = 27 ∨ k = 28))) : TS e s p G (si M c k v) := by
  have a0 : ∀ j, j ≠ 26 → j ≠ 27 → j ≠ 28 → (si M c k v).1 0 j = M.1 0 j := fun j h1 h2 h3 => si_ne (by omega)
  have a11 : (si M c k v).1 11 = M.1 11 := si_c (by omega)
  have a2 : (si M c k v).2 = M.2 := rfl
  unfold TS BY KD at h ⊢
  rw [a11, a2, a0 19 (by decide) (by decide) (by decide), a0 20 (by decide) (by decide) (by decide), a0 13 (by decide) (by decide) (by decide), a0 14 (by decide) (by decide) (by decide), a0 15 (by decide) (by decide) (by decide), a0 16 (by decide) (by decide) (by decide), a0 17 (by decide) (by decide) (by decide)]
  exact h
