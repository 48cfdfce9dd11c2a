/-! LOAD 2: the clause of a tube -/
theorem add_mark {N : Nat → Int32} {t : Nat} {a b c d e f g : Int32} : va_up (addN N t a b c d e f) (18 + 7 * t + 5) g = addN N t a b c d e g := by
  unfold addN
  rw [← lay_mark (N := N) (t := t) (a := a) (b := b) (c := c) (d := d) (e := e) (f := f) (g := g)]
  funext k
  unfold va_up
  by_cases q : k = 18 + 7 * t + 5
  · rw [if_pos q, if_pos q, if_neg (by omega)]
  · rw [if_neg q]
    by_cases q2 : k = 2
    · rw [if_pos q2, if_pos q2]
    · rw [if_neg q2, if_neg q2, if_neg q]
theorem mark_rel {R : RowS} {N : Nat → Int32} {S : Nat → Int64} (h : wfN N) (r : Rel R N S) {t : Nat} (ht : t < 12) {v : Int32} : Rel (si R (t + 5) 5 v) (va_up N (18 + 7 * t + 5) v) S :=
  rel_cell h r (by omega) (fun k hk => by omega) (fun q hq => by omega) (fun j hj k hk => by omega) (fun t' ht' k hk => by omega)

