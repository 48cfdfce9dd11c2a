/-! LOAD 1: the clauses of a text -/
abbrev Z0 : Nat → Int64 := fun _ => 0
theorem liq_si {R : RowS} {c : Nat} {a b d : Int32} : stL R c (f_X1_liquid (R.1 c, R.2 c) a b d) = si (si (si R c 0 a) c 1 b) c 2 d := by
  unfold stL f_X1_liquid si
  simp only [lt, va_up_self, up_up, up_self]
theorem leg_wf {N : Nat → Int32} (h : wfN N) {j : Nat} (hj : j < 2) {k : Nat} (hk : k < 3) {v : Int32} (h0 : k = 0 → bd v 100 20000) (h1 : k = 1 → bd v 100 99999) (h2 : k = 2 → bd v (-9999) 9999) : wfN (va_up N (12 + 3 * j + k) v) :=
  wf_cell h (by omega) (fun q => by omega) (fun p hp q => by omega) (fun j' hj' => ⟨fun q => h0 (by omega), fun q => h1 (by omega), fun q => h2 (by omega)⟩) (fun t ht => ⟨by omega, by omega, fun q => by omega, fun q => by omega, fun q => by omega, fun q => by omega, fun q => by omega⟩)
theorem leg_rel {R : RowS} {N : Nat → Int32} {S : Nat → Int64} (h : wfN N) (r : Rel R N S) {j k : Nat} (hj : j < 2) (hk : k < 3) {v : Int32} : Rel (si R (j + 2) k v) (va_up N (12 + 3 * j + k) v) S :=
  rel_cell h r (by omega) (fun k hk => by omega) (fun q hq => by omega) (fun j hj k hk => by omega) (fun t ht k hk => by omega)
section CLAUSE
variable {e m : Nat} {G G1 : GlbS} {M M1 : RowS} {R : RowS}
def PX (n : Nat) (R : RowS) (G : GlbS) : Option (RowS × GlbS) :=
  ob (f_X5_takeNumber n G 0 ((R.1 0 0) - 1)) fun x7 =>
  lt (x7.2) fun Gv8 =>
  lt (x7.1) fun x9 =>
  ob (f_X5_takeNumber n Gv8 0 99999) fun x10 =>
  lt (x10.2) fun Gv11 =>
  lt (f_X3_press R x9 x10.1) fun x12 =>
  lt (x12) fun Rv13 =>
  some (Rv13, Gv11)
theorem hi_pt {N : Nat → Int32} (h : wfN N) : (N 0 - 1).toInt = (N 0).toInt - 1 ∧ (0 : Int32).toInt ≤ (N 0 - 1).toInt := by
  have h0 := h.1
  unfold bd at h0
  have e : (N 0 - 1).toInt = (N 0).toInt - 1 := i32_sub (by rw [show (1 : Int32).toInt = 1 from rfl]; omega)
  have : (0 : Int32).toInt = 0 := rfl
  exact ⟨e, by omega⟩
end CLAUSE

