/-! QUERY 2: values -/
noncomputable def pv (N : Nat → Int32) (S : Nat → Int64) (k : Nat) (q : Int32) : Int32 :=
  if q = 0 then nI k else if q = 1 then tg N k 0 else if q = 2 then tg N k 1 else if q = 3 then tg N k 2 else if q = 4 then tg N k 3 else if q = 5 then tg N k 4 else if q = 6 then tg N k 6 else if q = 7 then columnS N S k else N (4 + ptOf N k)
theorem m_prop {M : RowS} (h : wfN (M.1 1)) (hS : wfS (M.1 1) (M.2 5)) {k : Nat} (hk : k < cnt (M.1 1)) (q : Int32) : f_X8_propertyOf 1000 M q (nI k) = some (pv (M.1 1) (M.2 5) k q) := by
  have hc := cnt_le h
  have h12 : k < 12 := by omega
  unfold f_X8_propertyOf pv
  rw [m_of0 h12, m_of1 h12, m_of2 h12, m_of3 h12, m_of4 h12, m_of6 h12, m_column h hS hk (by omega)]
  by_cases q0 : q = 0
  · rw [if_pos q0, if_pos q0]
  · rw [if_neg q0, if_neg q0]
    by_cases q1 : q = 1
    · rw [if_pos q1, if_pos q1]; rfl
    · rw [if_neg q1, if_neg q1]
      by_cases q2 : q = 2
      · rw [if_pos q2, if_pos q2]; rfl
      · rw [if_neg q2, if_neg q2]
        by_cases q3 : q = 3
        · rw [if_pos q3, if_pos q3]; rfl
        · rw [if_neg q3, if_neg q3]
          by_cases q4 : q = 4
          · rw [if_pos q4, if_pos q4]; rfl
          · rw [if_neg q4, if_neg q4]
            by_cases q5 : q = 5
            · rw [if_pos q5, if_pos q5]; rfl
            · rw [if_neg q5, if_neg q5]
              by_cases q6 : q = 6
              · rw [if_pos q6, if_pos q6]; rfl
              · rw [if_neg q6, if_neg q6]
                by_cases q7 : q = 7
                · rw [if_pos q7, if_pos q7]; rfl
                · have hp := ptOf_lt h hk
                  rw [if_neg q7, if_neg q7, ob_some, tg1 h hk, show (4 : Int32) + nI (ptOf (M.1 1) k) = nI (4 + ptOf (M.1 1) k) by rw [show (4 : Int32) = nI 4 from rfl, nI_add], if_pos (by rw [nI_toInt (by omega)]; omega), nI_clamp (by omega)]
noncomputable def ex1 (N : Nat → Int32) (S : Nat → Int64) (k : Nat) (c : Int32) (s : List Int32) : List Int32 :=
  if c = 23 then (match s with | a :: t => (1 - a) :: t | [] => List.replicate 1000 0)
  else if f_X8_in c.toInt64 20 25 = true then (match s with | b :: a :: t => b2i (f_X8_joined c a b) :: t | _ => List.replicate 1000 0)
  else if c < 100 then pv N S k c :: s else (c - 100) :: s
noncomputable def exN (N : Nat → Int32) (S : Nat → Int64) (k : Nat) (f : Nat → Int32) (a : Nat) : Nat → List Int32 → List Int32
  | 0, s => s
  | n + 1, s => ex1 N S k (f (a + n)) (exN N S k f a n s)
theorem ex_congr {N : Nat → Int32} {S : Nat → Int64} {k : Nat} {f g : Nat → Int32} {a : Nat} {s : List Int32} : ∀ n, (∀ i, a ≤ i → i < a + n → f i = g i) → exN N S k f a n s = exN N S k g a n s := by
  intro n
  induction n with
  | zero => intro _; rfl
  | succ n ih =>
    intro h
    rw [exN, exN, h (a + n) (by omega) (by omega), ih (fun i h1 h2 => h i h1 (by omega))]
theorem ex_add {N : Nat → Int32} {S : Nat → Int64} {k : Nat} {f : Nat → Int32} {a m : Nat} {s : List Int32} : ∀ n, exN N S k f a (m + n) s = exN N S k f (a + m) n (exN N S k f a m s) := by
  intro n
  induction n with
  | zero => rfl
  | succ n ih =>
    show ex1 N S k (f (a + (m + n))) (exN N S k f a (m + n) s) = ex1 N S k (f ((a + m) + n)) _
    rw [ih, Nat.add_assoc]
/-- the class's operand, the model's code, and the value of both on each tube -/
def VC (R : RowS) (N : Nat → Int32) (S : Nat → Int64) (told code : Int32) (u : Nat → Int32) : Prop :=
  (∀ G k, k < cnt N → f_X2_valueFor R G (nI k) told = u k) ∧ ∀ k, k < cnt N → ∀ s, ex1 N S k code s = u k :: s
section VCS
variable {R : RowS} {N : Nat → Int32} {S : Nat → Int64}
theorem vc_num {v : Nat} (hv : v < 1000000) : VC R N S (nI v) (100 + nI v) (fun _ => nI v) := by
  have e : 100 + nI v = nI (100 + v) := by rw [show (100 : Int32) = nI 100 from rfl, nI_add]
  refine ⟨fun G k hk => ?_, fun k hk s => ?_⟩
  · unfold f_X2_valueFor
    rw [if_neg (nI_pos (by omega))]
  · unfold ex1
    rw [e, if_neg, in_f (by rw [i32_ext, nI_toInt (by omega)]; intro q; have := q.2; rw [show (25 : Int64).toInt = 25 from rfl] at this; omega), if_neg (by decide), if_neg, show (100 : Int32) = nI 100 from rfl, pk_sub (by omega), show 100 + v - 100 = v by omega]
    · rw [i32_lt, nI_toInt (by omega), show (100 : Int32).toInt = 100 from rfl]; omega
    · intro q
      have := congrArg Int32.toInt q
      rw [nI_toInt (by omega), show (23 : Int32).toInt = 23 from rfl] at this
      omega
theorem vc_prop {q p : Int32} (hp : q - 100 < 0 ∧ q - 100 + 100 = q) (h : ∀ k, k < cnt N → f_X3_numberOf R (nI k) q = pv N S k p) (h23 : ¬ p = 23) (hi : f_X8_in p.toInt64 20 25 = false) (h100 : p < 100) : VC R N S (q - 100) p (fun k => pv N S k p) := by
  refine ⟨fun G k hk => ?_, fun k hk s => ?_⟩
  · unfold f_X2_valueFor
    rw [if_pos hp.1, hp.2]
    exact h k hk
  · unfold ex1
    rw [if_neg h23, hi, if_neg (by decide), if_pos h100]
theorem vc_all (h : wfN N) (g : Settled R N S) : VC R N S (11 - 100) 0 (fun k => pv N S k 0) ∧ VC R N S (0 - 100) 1 (fun k => pv N S k 1) ∧ VC R N S (1 - 100) 2 (fun k => pv N S k 2) ∧ VC R N S (2 - 100) 3 (fun k => pv N S k 3) ∧ VC R N S (3 - 100) 4 (fun k => pv N S k 4) ∧ VC R N S (4 - 100) 5 (fun k => pv N S k 5) ∧ VC R N S (6 - 100) 6 (fun k => pv N S k 6) ∧ VC R N S (7 - 100) 7 (fun k => pv N S k 7) ∧ VC R N S (12 - 100) 8 (fun k => pv N S k 8) := by
  have hc := cnt_le h
  have r := g.1
  have rt := r.2.2.2.2.2
  refine ⟨vc_prop (by decide) (fun k hk => ?_) (by decide) (by decide) (by decide), vc_prop (by decide) (fun k hk => ?_) (by decide) (by decide) (by decide), vc_prop (by decide) (fun k hk => ?_) (by decide) (by decide) (by decide), vc_prop (by decide) (fun k hk => ?_) (by decide) (by decide) (by decide), vc_prop (by decide) (fun k hk => ?_) (by decide) (by decide) (by decide), vc_prop (by decide) (fun k hk => ?_) (by decide) (by decide) (by decide), vc_prop (by decide) (fun k hk => ?_) (by decide) (by decide) (by decide), vc_prop (by decide) (fun k hk => ?_) (by decide) (by decide) (by decide), vc_prop (by decide) (fun k hk => ?_) (by decide) (by decide) (by decide)⟩
  · rw [c_num11 (by omega)]; rfl
  · rw [c_num0 (by omega)]; exact rt k hk 0 (by decide)
  · rw [c_num1 (by omega)]; exact rt k hk 1 (by decide)
  · rw [c_num2 (by omega)]; exact rt k hk 2 (by decide)
  · rw [c_num3 (by omega)]; exact rt k hk 3 (by decide)
  · rw [c_num4 (by omega)]; exact rt k hk 4 (by decide)
  · rw [c_num6 (by omega)]; exact rt k hk 6 (by decide)
  · rw [c_num7 (by omega)]; exact g.2.2.2 k hk
  · have hp := ptOf_lt h hk
    rw [c_num12 (by omega), rt k hk 1 (by decide), tg1 h hk, c_press hp, r.2.2.2.1 _ hp]
    rfl
end VCS
theorem m_adds {M : RowS} {c : Nat} (h : M.1 0 26 = nI c) (hc : c < 200) (v : Int32) : f_X8_adds M v = some (si (si M 23 c v) 0 26 (nI (c + 1))) := by
  unfold f_X8_adds
  rw [h, if_pos (by rw [nI_toInt (by omega)]; omega), nI_clamp (by omega), lt_eq, si_ne (Or.inl (by decide)), h, nI_1]
  rfl
theorem tx_si {e c k : Nat} {G : GlbS} {M : RowS} {v : Int32} (h : TX e G M) (hc : c = 23 ∨ c = 24 ∨ (c = 0 ∧ (k = 26 ∨ k = 27 ∨ k = 28))) : TX e G (si M c k v) := by
  have a0 : ∀ j, j ≠ 26 → j ≠ 27 → j ≠ 28 → (si M c k v).1 0 j = M.1 0 j := fun j h1 h2 h3 => si_ne (by omega)
  unfold TX at h ⊢
  rw [a0 19 (by decide) (by decide) (by decide), a0 20 (by decide) (by decide) (by decide)]
  exact h
