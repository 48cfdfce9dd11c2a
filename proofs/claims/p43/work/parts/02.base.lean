/-! BASE: one list of words for all methods; a world as a list of cells behind functions; rows over it -/
/-- private methods of AbstractStringBuilder, called on a StringBuilder: no row of the tables says it, but it follows from them -/
def lw_ex : List Cond := []
def lw_all : List Cond := (lw_tbl ++ lw_ex).filter goodWord
theorem lw_q {w : Cond} (i : Nat) (h : lw_tbl[i]? = some w) (g : goodWord w = true) : w ∈ lw_all := List.mem_filter.mpr ⟨List.mem_append.mpr (Or.inl (List.mem_of_getElem? h)), g⟩
theorem lw_qx {w : Cond} (h : w ∈ lw_ex) (g : goodWord w = true) : w ∈ lw_all := List.mem_filter.mpr ⟨List.mem_append.mpr (Or.inr h), g⟩
theorem lw_all_tbl {w : Cond} (h : w ∈ lw_all) : w ∈ lw_tbl ∨ w ∈ lw_ex := List.mem_append.mp (List.mem_filter.mp h).1
theorem lw_all_good : ∀ w ∈ lw_all, ((w.onTables && w.keeps) = true ∨ ∃ ty, w = .arrayClass ty) := fun _ h => good_of_word (List.mem_filter.mp h).2
abbrev ws_ (y : MethodName) (cc : ByteArray) (n : Nat) (r : Option FieldType) : List Cond := Cond.code y cc n r :: lw_all
-- small things for the pure readings of the code
def lt {α β : Type} (a : α) (f : α → β) : β := f a
def ob {α β : Type} (a : Option α) (f : α → Option β) : Option β := a.bind f
theorem lt_out {α β : Type} {a : α} {f : α → β} {r : β} (h : lt a f = r) : ∃ x, x = a ∧ f x = r := ⟨a, rfl, h⟩
theorem ob_out {α β : Type} {a : Option α} {f : α → Option β} {r : β} (h : ob a f = some r) : ∃ x, a = some x ∧ f x = some r := Option.bind_eq_some_iff.mp h
theorem if_t {α : Type} {c : Prop} [Decidable c] {a b r : α} (hc : c) (h : (if c then a else b) = r) : a = r := by rw [if_pos hc] at h; exact h
theorem if_f {α : Type} {c : Prop} [Decidable c] {a b r : α} (hc : ¬ c) (h : (if c then a else b) = r) : b = r := by rw [if_neg hc] at h; exact h
theorem if_o {α : Type} {c : Prop} [Decidable c] {a : Option α} {r : α} (h : (if c then a else none) = some r) : c ∧ a = some r := by
  by_cases hc : c
  · rw [if_pos hc] at h; exact ⟨hc, h⟩
  · rw [if_neg hc] at h; cases h
def wloop {σ ρ : Type} (f : σ → Option (σ ⊕ ρ)) : Nat → σ → Option ρ
  | 0, _ => none
  | n + 1, s => match f s with
    | none => none
    | some (.inl t) => wloop f n t
    | some (.inr r) => some r
theorem wloop_0 {σ ρ : Type} {f : σ → Option (σ ⊕ ρ)} {s : σ} {e : ρ} (h : wloop f 0 s = some e) : False := by cases h
theorem wloop_out {σ ρ : Type} {f : σ → Option (σ ⊕ ρ)} {n : Nat} {s : σ} {e : ρ} (h : wloop f (n + 1) s = some e) : ∃ x, f s = some x ∧ ((∃ t, x = .inl t ∧ wloop f n t = some e) ∨ x = .inr e) := by
  unfold wloop at h
  cases hx : f s with
  | none => rw [hx] at h; cases h
  | some x =>
    rw [hx] at h
    cases x with
    | inl t => exact ⟨_, rfl, Or.inl ⟨t, rfl, h⟩⟩
    | inr r => exact ⟨_, rfl, Or.inr (by cases h; rfl)⟩
theorem wl_l {σ ρ : Type} {f : σ → Option (σ ⊕ ρ)} {n : Nat} {x : σ ⊕ ρ} {t : σ} {e : ρ} (h : some (Sum.inl t) = some x) (k : (∃ t, x = .inl t ∧ wloop f n t = some e) ∨ x = .inr e) : wloop f n t = some e := by
  cases h
  rcases k with ⟨t', e1, k⟩ | k
  · cases e1; exact k
  · cases k
theorem wl_r {σ ρ : Type} {f : σ → Option (σ ⊕ ρ)} {n : Nat} {x : σ ⊕ ρ} {t : ρ} {e : ρ} (h : some (Sum.inr t) = some x) (k : (∃ t, x = .inl t ∧ wloop f n t = some e) ∨ x = .inr e) : e = t := by
  cases h
  rcases k with ⟨t', e1, k⟩ | k
  · cases e1
  · cases k; rfl
def b2i (b : Bool) : Int32 := if b = true then 1 else 0
theorem b2i_nar (b : Bool) : narrow .boolean (.int (b2i b)) = .int (b2i b) := by cases b <;> rfl
theorem b2i_0 {b : Bool} : b2i b = 0 ↔ ¬ b = true := by cases b <;> decide
theorem inb_vp {x : Int32} {n : Nat} (h : 0 ≤ x.toInt ∧ x.toInt < (n : Int)) : vp_in x n := vp_in_iff.mpr h
theorem inb_2 {x y : Int32} {n : Nat} (h1 : ¬ x < 0) (h2 : ¬ y ≤ x) (hy : y.toInt = (n : Int)) : vp_in x n := by
  rw [Int32.lt_iff_toInt_lt, Int32.toInt_zero] at h1
  rw [Int32.le_iff_toInt_le] at h2
  exact vp_in_iff.mpr ⟨by omega, by omega⟩
theorem inb_3 {x y : Int32} {n : Nat} (h1 : ¬ x < 0) (h2 : x < y) (hy : y.toInt = (n : Int)) : vp_in x n := by
  rw [Int32.lt_iff_toInt_lt, Int32.toInt_zero] at h1
  rw [Int32.lt_iff_toInt_lt] at h2
  exact vp_in_iff.mpr ⟨by omega, by omega⟩
theorem l_ne {x : Int32} (h : ¬ x = 0) : ¬ x.toInt64 = 0 := fun q => h (by
  have := congrArg Int64.toInt q
  rw [Int32.toInt_toInt64] at this
  exact Int32.toInt_inj.mp (by rw [this]; rfl))
-- the cells: rows 0 to 12 of 18 cells each, then seven cells more
abbrev RowS : Type := (Nat → Nat → Int32) × (Nat → Nat → Int64)
abbrev RowsS : Type := Nat → RowS
abbrev GlbS : Type := Nat → Nat → Int32
def si (R : RowS) (c k : Nat) (v : Int32) : RowS := (va_up R.1 c (va_up (R.1 c) k v), R.2)
def sl (R : RowS) (c k : Nat) (v : Int64) : RowS := (R.1, va_up R.2 c (va_up (R.2 c) k v))
def sg (G : GlbS) (c k : Nat) (v : Int32) : GlbS := va_up G c (va_up (G c) k v)
def tubeFs (T : Nat → Int32) : List Value := [.int (T 0), .int (T 1), .int (T 2), .int (T 3), .int (T 4), .int (T 5), .int (T 6), .int (T 7), .int (T 8), .int (T 9)]
def legFs (I : Nat → Int32) (L : Nat → Int64) : List Value := [.int (I 0), .int (I 1), .int (I 2), .long (L 3), .long (L 4), .long (L 5), .long (L 6)]
def rowFs (ar : Nat → Nat → Nat) (r : Nat) (I : Nat → Int32) : List Value := [.int (I 0), .int (I 1), .int (I 2), .ref (ar r 1), .ref (ar r 2), .ref (ar r 3), .ref (ar r 4), .ref (ar r 17)]
def rowCell (ar : Nat → Nat → Nat) (ca : Nat → ClassId) (r : Nat) (R : RowS) : Nat → va_E
  | 0 => .inr (5, rowFs ar r (R.1 0))
  | 1 => .inl (ca 1, 8, .inl (R.1 1))
  | 2 => .inr (3, legFs (R.1 2) (R.2 2))
  | 3 => .inr (3, legFs (R.1 3) (R.2 3))
  | 4 => .inl (ca 4, 12, .inr (.inr (.inr (.inr fun j => some (ar r (j + 5))))))
  | c + 5 => .inr (8, tubeFs (R.1 (c + 5)))
def objFs (ar : Nat → Nat → Nat) (ag : Nat → Nat) (I : Nat → Int32) : List Value := [.ref (ar 0 0), .ref (ar 1 0), .ref (ar 2 0), .ref (ag 1), .ref (ag 3), .ref (ag 5), .int (I 6)]
def hisFs (ag : Nat → Nat) (I : Nat → Int32) : List Value := [.ref (ag 2), .int (I 1), .int (I 2)]
def tokFs (ag : Nat → Nat) (I : Nat → Int32) : List Value := [.ref (ag 4), .int (I 1), .int (I 2), .int (I 3), .int (I 4), .int (I 5), .int (I 6), .int (I 7), .int (I 8)]
def sbuFs (ag : Nat → Nat) (I : Nat → Int32) : List Value := [.ref (ag 6), .int 0, .int (I 2), .int (I 3)]
def lawFs (ag : Nat → Nat) (I : Nat → Int32) : List Value := [.ref (ag 8), .int (I 1)]
def glbCell (ar : Nat → Nat → Nat) (ag : Nat → Nat) (ca : Nat → ClassId) (G : GlbS) : Nat → va_E
  | 0 => .inr (9, objFs ar ag (G 0))
  | 1 => .inr (2, hisFs ag (G 1))
  | 2 => .inl (ca 3, 10, .inr (.inr (.inr (.inr fun j => some (ar (j + 3) 0)))))
  | 3 => .inr (7, tokFs ag (G 3))
  | 4 => .inl (ca 0, 600, .inl (G 4))
  | 5 => .inr (1, sbuFs ag (G 5))
  | 6 => .inl (ca 0, 16, .inl (G 6))
  | 7 => .inr (10, lawFs ag (G 7))
  | _ + 8 => .inl (ca 1, 700, .inl (G 8))
def wC (ar : Nat → Nat → Nat) (ag : Nat → Nat) (ca : Nat → ClassId) (P : RowsS) (G : GlbS) : va_W :=
  (List.range 234).map (fun n => (ar (n / 18) (n % 18), rowCell ar ca (n / 18) (P (n / 18)) (n % 18))) ++ (List.range 9).map (fun k => (ag k, glbCell ar ag ca G k))
theorem wC_len {ar : Nat → Nat → Nat} {ag : Nat → Nat} {ca : Nat → ClassId} {P : RowsS} {G : GlbS} : (wC ar ag ca P G).length = 243 := by simp [wC]
theorem wC_get {ar : Nat → Nat → Nat} {ag : Nat → Nat} {ca : Nat → ClassId} {P : RowsS} {G : GlbS} (n : Nat) : (wC ar ag ca P G)[n]? = if n < 234 then some (ar (n / 18) (n % 18), rowCell ar ca (n / 18) (P (n / 18)) (n % 18)) else if n < 243 then some (ag (n - 234), glbCell ar ag ca G (n - 234)) else none := by
  unfold wC
  by_cases h : n < 234
  · rw [if_pos h, List.getElem?_append_left (by simpa using h), List.getElem?_map, List.getElem?_range h]; rfl
  · rw [if_neg h, List.getElem?_append_right (by simp; omega), List.getElem?_map]
    simp only [List.length_map, List.length_range]
    by_cases h2 : n < 243
    · rw [if_pos h2, List.getElem?_range (by omega)]; rfl
    · rw [if_neg h2, List.getElem?_eq_none (by simp; omega)]; rfl
theorem wC_fst {ar : Nat → Nat → Nat} {ag : Nat → Nat} {ca : Nat → ClassId} {P P' : RowsS} {G G' : GlbS} : (wC ar ag ca P G).map Prod.fst = (wC ar ag ca P' G').map Prod.fst := by
  simp [wC, Function.comp_def]
theorem wC_fstx {ar : Nat → Nat → Nat} {ag : Nat → Nat} {ca : Nat → ClassId} {P P' : RowsS} {G G' : GlbS} {xs : va_W} : (wC ar ag ca P G ++ xs).map Prod.fst = (wC ar ag ca P' G' ++ xs).map Prod.fst := by
  rw [List.map_append, List.map_append, wC_fst]
theorem pl_row {ar : Nat → Nat → Nat} {ag : Nat → Nat} {ca : Nat → ClassId} {P : RowsS} {G : GlbS} {xs : va_W} {r c : Nat} (hr : r < 13) (hc : c < 18) : (wC ar ag ca P G ++ xs)[18 * r + c]? = some (ar r c, rowCell ar ca r (P r) c) := by
  have h1 : (18 * r + c) / 18 = r := by omega
  have h2 : (18 * r + c) % 18 = c := by omega
  rw [List.getElem?_append_left (by rw [wC_len]; omega), wC_get, if_pos (by omega), h1, h2]
theorem pl_glb {ar : Nat → Nat → Nat} {ag : Nat → Nat} {ca : Nat → ClassId} {P : RowsS} {G : GlbS} {xs : va_W} {k : Nat} (hk : k < 9) : (wC ar ag ca P G ++ xs)[234 + k]? = some (ag k, glbCell ar ag ca G k) := by
  have h1 : 234 + k - 234 = k := by omega
  rw [List.getElem?_append_left (by rw [wC_len]; omega), wC_get, if_neg (by omega), if_pos (by omega), h1]
theorem pl_xs {ar : Nat → Nat → Nat} {ag : Nat → Nat} {ca : Nat → ClassId} {P : RowsS} {G : GlbS} {xs : va_W} {k : Nat} : (wC ar ag ca P G ++ xs)[243 + k]? = xs[k]? := by
  have h1 : 243 + k - 243 = k := by omega
  rw [List.getElem?_append_right (by rw [wC_len]; omega), wC_len, h1]
theorem rowCell_congr {ar : Nat → Nat → Nat} {ca : Nat → ClassId} {r d : Nat} {R R' : RowS} (h1 : R'.1 d = R.1 d) (h2 : R'.2 d = R.2 d) : rowCell ar ca r R' d = rowCell ar ca r R d := by
  unfold rowCell; split <;> simp_all
theorem glbCell_congr {ar : Nat → Nat → Nat} {ag : Nat → Nat} {ca : Nat → ClassId} {d : Nat} {G G' : GlbS} (hd : d < 9) (h1 : G' d = G d) : glbCell ar ag ca G' d = glbCell ar ag ca G d := by
  unfold glbCell; split
  all_goals first
    | simp_all; done
    | rfl
    | (rename_i n; have : n = 0 := by omega
       subst this; simp_all)
theorem set_row {ar : Nat → Nat → Nat} {ag : Nat → Nat} {ca : Nat → ClassId} {P : RowsS} {G : GlbS} {xs : va_W} {r c : Nat} {R' : RowS} {e : va_E} (hr : r < 13) (hc : c < 18) (he : rowCell ar ca r R' c = e) (h1 : ∀ d, d ≠ c → R'.1 d = (P r).1 d) (h2 : ∀ d, d ≠ c → R'.2 d = (P r).2 d) : (wC ar ag ca P G ++ xs).set (18 * r + c) (ar r c, e) = wC ar ag ca (va_up P r R') G ++ xs := by
  apply List.ext_getElem?
  intro n
  by_cases hn : n = 18 * r + c
  · subst hn
    rw [List.getElem?_set_self (by rw [List.length_append, wC_len]; omega), pl_row hr hc, va_up_self, he]
  · rw [List.getElem?_set_ne (Ne.symm hn)]
    by_cases hx : n < 243
    · rw [List.getElem?_append_left (by rw [wC_len]; exact hx), List.getElem?_append_left (by rw [wC_len]; exact hx), wC_get, wC_get]
      by_cases h3 : n < 234
      · rw [if_pos h3, if_pos h3]
        by_cases h4 : n / 18 = r
        · have h5 : n % 18 ≠ c := by omega
          rw [h4, va_up_self, rowCell_congr (h1 _ h5) (h2 _ h5)]
        · rw [va_up_ne _ _ h4]
      · rw [if_neg h3, if_neg h3]
    · rw [List.getElem?_append_right (by rw [wC_len]; omega), List.getElem?_append_right (by rw [wC_len]; omega), wC_len, wC_len]
theorem set_glb {ar : Nat → Nat → Nat} {ag : Nat → Nat} {ca : Nat → ClassId} {P : RowsS} {G G' : GlbS} {xs : va_W} {k : Nat} {e : va_E} (hk : k < 9) (he : glbCell ar ag ca G' k = e) (h1 : ∀ d, d ≠ k → G' d = G d) : (wC ar ag ca P G ++ xs).set (234 + k) (ag k, e) = wC ar ag ca P G' ++ xs := by
  apply List.ext_getElem?
  intro n
  by_cases hn : n = 234 + k
  · subst hn
    rw [List.getElem?_set_self (by rw [List.length_append, wC_len]; omega), pl_glb hk, he]
  · rw [List.getElem?_set_ne (Ne.symm hn)]
    by_cases hx : n < 243
    · rw [List.getElem?_append_left (by rw [wC_len]; exact hx), List.getElem?_append_left (by rw [wC_len]; exact hx), wC_get, wC_get]
      by_cases h3 : n < 234
      · rw [if_pos h3, if_pos h3]
      · rw [if_neg h3, if_neg h3, if_pos hx, if_pos hx, glbCell_congr (by omega) (h1 _ (by omega))]
    · rw [List.getElem?_append_right (by rw [wC_len]; omega), List.getElem?_append_right (by rw [wC_len]; omega), wC_len, wC_len]
