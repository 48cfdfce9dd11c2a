/-! QUERY 4: after an error; bits -/
section QCX
variable {e : Nat} {G : GlbS} {R : RowS}
theorem cx_r {s p : Nat} (h : CP e s p G) : CX e G G := ⟨gf_r, rfl, rfl, s, p, h⟩
theorem cx_named {s p : Nat} (h : CP e s p G) (h7 : ¬ G 3 7 = 0) : ∃ q G', f_X2_propertyNamed 1000 R G = some (q, G') ∧ CX e G G' := by
  unfold f_X2_propertyNamed
  obtain ⟨b, x, _⟩ := c_word lw_qtube h
  rw [x, ob_some]
  cases b with
  | true =>
    rw [if_pos rfl]
    exact ⟨_, _, rfl, cx_r h⟩
  | false =>
    rw [if_neg (by decide)]
    clear x
    obtain ⟨b, x, _⟩ := c_word lw_qleg h
    rw [x, ob_some]
    cases b with
    | true =>
      rw [if_pos rfl]
      exact ⟨_, _, rfl, cx_r h⟩
    | false =>
      rw [if_neg (by decide)]
      clear x
      obtain ⟨b, x, _⟩ := c_word lw_point h
      rw [x, ob_some]
      cases b with
      | true =>
        rw [if_pos rfl]
        exact ⟨_, _, rfl, cx_r h⟩
      | false =>
        rw [if_neg (by decide)]
        clear x
        obtain ⟨b, x, _⟩ := c_word lw_bore h
        rw [x, ob_some]
        cases b with
        | true =>
          rw [if_pos rfl]
          exact ⟨_, _, rfl, cx_r h⟩
        | false =>
          rw [if_neg (by decide)]
          clear x
          obtain ⟨b, x, _⟩ := c_word lw_slant h
          rw [x, ob_some]
          cases b with
          | true =>
            rw [if_pos rfl]
            exact ⟨_, _, rfl, cx_r h⟩
          | false =>
            rw [if_neg (by decide)]
            clear x
            obtain ⟨b, x, _⟩ := c_word lw_length h
            rw [x, ob_some]
            cases b with
            | true =>
              rw [if_pos rfl]
              exact ⟨_, _, rfl, cx_r h⟩
            | false =>
              rw [if_neg (by decide)]
              clear x
              obtain ⟨b, x, _⟩ := c_word lw_state h
              rw [x, ob_some]
              cases b with
              | true =>
                rw [if_pos rfl]
                exact ⟨_, _, rfl, cx_r h⟩
              | false =>
                rw [if_neg (by decide)]
                clear x
                obtain ⟨b, x, _⟩ := c_word lw_column h
                rw [x, ob_some]
                cases b with
                | true =>
                  rw [if_pos rfl]
                  exact ⟨_, _, rfl, cx_r h⟩
                | false =>
                  rw [if_neg (by decide)]
                  clear x
                  obtain ⟨b, x, _⟩ := c_word lw_qpress h
                  rw [x, ob_some]
                  cases b with
                  | true =>
                    rw [if_pos rfl]
                    exact ⟨_, _, rfl, cx_r h⟩
                  | false =>
                    rw [if_neg (by decide)]
                    clear x
                    exact ⟨_, _, rfl, cx_fail h h7 1⟩
theorem cx_next {s p : Nat} (h : CP e s p G) {G1 : GlbS} (k : CX e G G1) : ∃ G', f_X5_advance 1000 G1 = some G' ∧ CX e G G' := by
  obtain ⟨s', p', hcp⟩ := k.2.2.2
  obtain ⟨G', a1, a2⟩ := cx_adv hcp
  exact ⟨G', a1, cx_t k a2⟩
theorem cx_operand {s p : Nat} (h : CP e s p G) (h7 : ¬ G 3 7 = 0) : ∃ told G', f_X2_operand 1000 R G = some (told, G') ∧ CX e G G' := by
  unfold f_X2_operand b_X2_operand_44
  rw [lt_eq (a := G 3 6)]
  by_cases c1 : G 3 5 = 2
  · rw [if_pos c1]
    by_cases c2 : G 3 6 ≤ 999999
    · obtain ⟨G', a1, a2⟩ := cx_adv h
      rw [if_pos c2, a1]
      exact ⟨_, G', rfl, a2⟩
    · obtain ⟨G', a1, a2⟩ := cx_next h (cx_fail h h7 2)
      rw [if_neg c2, lt_eq, lt_eq, a1]
      exact ⟨_, G', rfl, a2⟩
  · obtain ⟨q, G1, a1, a2⟩ := cx_named (R := R) h h7
    obtain ⟨G', a3, a4⟩ := cx_next h a2
    rw [if_neg c1, a1, ob_some, lt_eq, lt_eq, a3]
    exact ⟨_, G', rfl, a4⟩
end QCX
def HB (x : Int32) (β : Nat → Bool) (n : Nat) : Prop := ∀ i, i < 32 → x.toBitVec.getLsbD i = (decide (i < n) && β i)
theorem bit_1 : ∀ k : Fin 13, ∀ i : Fin 32, ((1 : Int32) <<< (nI k.val &&& 31)).toBitVec.getLsbD i.val = decide (i.val = k.val) := by decide +kernel
theorem bit_m : ∀ k : Fin 13, ∀ i : Fin 32, (((1 : Int32) <<< (nI k.val &&& 31)) - 1).toBitVec.getLsbD i.val = decide (i.val < k.val) := by decide +kernel
theorem bit_n : ∀ i : Fin 32, (-1 : Int32).toBitVec.getLsbD i.val = true := by decide +kernel
theorem hb_0 {β : Nat → Bool} : HB 0 β 0 := fun i hi => by
  rw [decide_eq_false (by omega), Bool.false_and]
  show (0 : Nat).testBit i = false
  exact Nat.zero_testBit i
theorem hb_t {x : Int32} {β : Nat → Bool} {n : Nat} (h : HB x β n) (hn : n < 12) (hb : β n = true) : HB (x ||| ((1 : Int32) <<< (nI n &&& 31))) β (n + 1) := fun i hi => by
  rw [Int32.toBitVec_or, BitVec.getLsbD_or, h i hi, bit_1 ⟨n, by omega⟩ ⟨i, hi⟩]
  show (decide (i < n) && β i || decide (i = n)) = _
  by_cases c : i = n
  · subst c
    rw [hb, decide_eq_true rfl, decide_eq_true (show i < i + 1 by omega), Bool.or_true]
    rfl
  · by_cases d : i < n
    · rw [decide_eq_true d, decide_eq_false c, decide_eq_true (show i < n + 1 by omega), Bool.or_false]
    · rw [decide_eq_false d, decide_eq_false c, decide_eq_false (show ¬ i < n + 1 by omega), Bool.or_false]
theorem hb_f {x : Int32} {β : Nat → Bool} {n : Nat} (h : HB x β n) (hb : β n = false) : HB x β (n + 1) := fun i hi => by
  rw [h i hi]
  by_cases c : i = n
  · subst c
    rw [hb, Bool.and_false, Bool.and_false]
  · by_cases d : i < n
    · rw [decide_eq_true d, decide_eq_true (show i < n + 1 by omega)]
    · rw [decide_eq_false d, decide_eq_false (show ¬ i < n + 1 by omega)]
theorem hb_and {x y : Int32} {β γ : Nat → Bool} {n : Nat} (h : HB x β n) (k : HB y γ n) : HB (x &&& y) (fun i => β i && γ i) n := fun i hi => by
  rw [Int32.toBitVec_and, BitVec.getLsbD_and, h i hi, k i hi]
  show _ = (decide (i < n) && (β i && γ i))
  cases decide (i < n) <;> cases β i <;> cases γ i <;> rfl
theorem hb_or {x y : Int32} {β γ : Nat → Bool} {n : Nat} (h : HB x β n) (k : HB y γ n) : HB (x ||| y) (fun i => β i || γ i) n := fun i hi => by
  rw [Int32.toBitVec_or, BitVec.getLsbD_or, h i hi, k i hi]
  show _ = (decide (i < n) && (β i || γ i))
  cases decide (i < n) <;> cases β i <;> cases γ i <;> rfl
theorem hb_not {x : Int32} {β : Nat → Bool} {n : Nat} (h : HB x β n) (hn : n ≤ 12) : HB ((x ^^^ (-1)) &&& (((1 : Int32) <<< (nI n &&& 31)) - 1)) (fun i => !β i) n := fun i hi => by
  rw [Int32.toBitVec_and, BitVec.getLsbD_and, Int32.toBitVec_xor, BitVec.getLsbD_xor, h i hi, bit_n ⟨i, hi⟩, bit_m ⟨n, by omega⟩ ⟨i, hi⟩]
  show (((decide (i < n) && β i) ^^ true) && decide (i < n)) = (decide (i < n) && !β i)
  cases decide (i < n) <;> cases β i <;> rfl
