/-! READ: a whole text of clauses -/
def Vc (pts : Nat) : List (List Nat) → Nat → Prop
  | [], n => n = 0
  | x :: xs, n =>
    (∃ (j : Nat) (d a c : Int32), j < 2 ∧ bd d 100 20000 ∧ bd a 100 99999 ∧ bd c (-9999) 9999 ∧ x = zl 4 ++ (spd (nI j).toInt ++ (spd d.toInt ++ (spd a.toInt ++ (spd c.toInt ++ [59])))) ∧ Vc pts xs n) ∨
    (∃ (p : Nat) (v : Int32), p < pts ∧ bd v 0 99999 ∧ x = zl 5 ++ (spd (nI p).toInt ++ (spd v.toInt ++ [59])) ∧ Vc pts xs n) ∨
    (∃ (j p : Nat) (b s e : Int32) (r : List Nat) (n' : Nat), j < 2 ∧ p < pts ∧ bd b 1 20 ∧ bd s 50 1000 ∧ bd e 10 2000 ∧ (r = [59] ∨ ∃ m, bd m (-9999) 9999 ∧ r = zl 7 ++ (spd m.toInt ++ [59])) ∧ x = zl 6 ++ (spd (nI j).toInt ++ (spd (nI p).toInt ++ (spd b.toInt ++ (spd s.toInt ++ (spd e.toInt ++ r))))) ∧ Vc pts xs n' ∧ n = n' + 1)
def Nx (pts : Nat) (G : GlbS) : List (List Nat) → Nat → Prop
  | [], n => En G ∧ n = 0
  | _ :: xs, n =>
    (∃ (j : Nat) (d a c : Int32), j < 2 ∧ bd d 100 20000 ∧ bd a 100 99999 ∧ bd c (-9999) 9999 ∧ Wd G (zl 4) (spd (nI j).toInt ++ (spd d.toInt ++ (spd a.toInt ++ (spd c.toInt ++ ([59] ++ xs.flatten))))) ∧ Vc pts xs n) ∨
    (∃ (p : Nat) (v : Int32), p < pts ∧ bd v 0 99999 ∧ Wd G (zl 5) (spd (nI p).toInt ++ (spd v.toInt ++ ([59] ++ xs.flatten))) ∧ Vc pts xs n) ∨
    (∃ (j p : Nat) (b s e : Int32) (r : List Nat) (n' : Nat), j < 2 ∧ p < pts ∧ bd b 1 20 ∧ bd s 50 1000 ∧ bd e 10 2000 ∧ (r = [59] ++ xs.flatten ∨ ∃ m, bd m (-9999) 9999 ∧ r = zl 7 ++ (spd m.toInt ++ ([59] ++ xs.flatten))) ∧ Wd G (zl 6) (spd (nI j).toInt ++ (spd (nI p).toInt ++ (spd b.toInt ++ (spd s.toInt ++ (spd e.toInt ++ r))))) ∧ Vc pts xs n' ∧ n = n' + 1)
theorem nol_spd {v : Int} {l : List Nat} : (spd v ++ l).length = 0 ∨ ¬ (97 ≤ (spd v ++ l).getD 0 0 ∧ (spd v ++ l).getD 0 0 ≤ 122) := by
  right
  unfold spd
  split
  · exact fun h => by have : 97 ≤ 32 := h.1; omega
  · exact fun h => by have : 97 ≤ 32 := h.1; omega
theorem ad_next {pts : Nat} : ∀ (xs : List (List Nat)) (n : Nat), Vc pts xs n → Ad xs.flatten (fun G => Nx pts G xs n) := by
  intro xs n V
  cases xs with
  | nil =>
    intro G h
    obtain ⟨G', a, b, c⟩ := to_end h
    exact ⟨G', a, ⟨b, V⟩, c⟩
  | cons x xs =>
    intro G h
    rw [List.flatten_cons] at h
    rcases V with ⟨j, d, a, c, h1, h2, h3, h4, rfl, h5⟩ | ⟨p, v, h1, h2, rfl, h3⟩ | ⟨j, p, b, s, e, r, n', h1, h2, h3, h4, h5, h6, rfl, h7, h8⟩
    · simp only [List.append_assoc] at h
      obtain ⟨G', k1, k2, k3⟩ := ad_word (by rw [z_num.1]; decide) (by rw [z_num.1]; decide) (by rw [z_num.1]; exact z_let.1) nol_spd G h
      exact ⟨G', k1, Or.inl ⟨j, d, a, c, h1, h2, h3, h4, k2, h5⟩, k3⟩
    · simp only [List.append_assoc] at h
      obtain ⟨G', k1, k2, k3⟩ := ad_word (by rw [z_num.2.1]; decide) (by rw [z_num.2.1]; decide) (by rw [z_num.2.1]; exact z_let.2.1) nol_spd G h
      exact ⟨G', k1, Or.inr (Or.inl ⟨p, v, h1, h2, k2, h3⟩), k3⟩
    · simp only [List.append_assoc] at h
      obtain ⟨G', k1, k2, k3⟩ := ad_word (by rw [z_num.2.2.1]; decide) (by rw [z_num.2.2.1]; decide) (by rw [z_num.2.2.1]; exact z_let.2.2.1) nol_spd G h
      refine ⟨G', k1, Or.inr (Or.inr ⟨j, p, b, s, e, r ++ xs.flatten, n', h1, h2, h3, h4, h5, ?_, k2, h7, h8⟩), k3⟩
      rcases h6 with h6 | ⟨m, m1, m2⟩
      · left; rw [h6]
      · right; exact ⟨m, m1, by rw [m2]; simp only [List.append_assoc]⟩
theorem nx_on {pts n : Nat} {G : GlbS} {x : List Nat} {xs : List (List Nat)} (h : Nx pts G (x :: xs) n) : f_X5_goesOn G = true := by
  have go : ∀ w l, Wd G w l → f_X5_goesOn G = true := by
    intro w l hw
    obtain ⟨q, a, k, -, -⟩ := hw
    unfold f_X5_goesOn
    rw [a.2.2.2.2.1, if_pos rfl, k, if_neg (by decide)]
  rcases h with ⟨j, d, a, c, h1, h2, h3, h4, h5, h6⟩ | ⟨p, v, h1, h2, h3, h4⟩ | ⟨j, p, b, s, e, r, n', h1, h2, h3, h4, h5, h6, h7, h8, h9⟩
  · exact go _ _ h5
  · exact go _ _ h3
  · exact go _ _ h7
theorem nx_clause {pts n : Nat} {R : RowS} {N : Nat → Int32} {G : GlbS} {x : List Nat} {xs : List (List Nat)} (hp : pts ≤ 8) (hN : N 0 = nI pts) (hn : cnt N + n ≤ 12) (w : RS R N) (h : Nx pts G (x :: xs) n) : ∃ R' N' G' n', f_X4_readClause 200 R G = some (R', G') ∧ Sn G' 59 xs.flatten ∧ GF G G' ∧ RS R' N' ∧ N' 0 = N 0 ∧ Vc pts xs n' ∧ cnt N' + n' = cnt N + n := by
  rcases h with ⟨j, d, a, c, h1, h2, h3, h4, h5, h6⟩ | ⟨p, v, h1, h2, h3, h4⟩ | ⟨j, p, b, s, e, r, n', h1, h2, h3, h4, h5, h6, h7, h8, h9⟩
  · obtain ⟨R', N', G', k1, k2, k3, k4, k5, k6⟩ := cl_leg h1 h2 h3 h4 h5 w
    exact ⟨R', N', G', n, k1, k2, k3, k4, k5, h6, by rw [k6]⟩
  · obtain ⟨R', N', G', k1, k2, k3, k4, k5, k6⟩ := cl_press hN hp h1 h2 h3 w
    exact ⟨R', N', G', n, k1, k2, k3, k4, k5, h4, by rw [k6]⟩
  · rcases h6 with h6 | ⟨m, m1, m2⟩
    · subst h6
      obtain ⟨R', N', G', k1, k2, k3, k4, k5, k6⟩ := cl_tube (Q := fun G => Sn G 59 xs.flatten) hN hp h2 (by omega) h1 h3 h4 h5 nod_59 ad_semi (fun G6 q => tp_none q) h7 w
      exact ⟨R', N', G', n', k1, k2, k3, k4, k5, h8, by rw [k6]; omega⟩
    · subst m2
      obtain ⟨R', N', G', k1, k2, k3, k4, k5, k6⟩ := cl_tube (Q := fun G => Wd G (zl 12) (spd m.toInt ++ ([59] ++ xs.flatten))) hN hp h2 (by omega) h1 h3 h4 h5 (by rw [z_leg.2.2.2.1, List.append_assoc]; exact nod_32) ad_mark (fun G6 q => tp_mark m1 q) h7 w
      exact ⟨R', N', G', n', k1, k2, k3, k4, k5, h8, by rw [k6]; omega⟩
theorem rd_loop {pts : Nat} (hp : pts ≤ 8) : ∀ (xs : List (List Nat)) (n i m : Nat) (R : RowS) (N : Nat → Int32) (G : GlbS), N 0 = nI pts → cnt N + n ≤ 12 → RS R N → Nx pts G xs n → i + xs.length < 600 → xs.length < m → ∃ R' N' G', wloop (fun t : Int32 × RowS × GlbS => l_X4_read_51 200 t.1 t.2.1 t.2.2) m (nI i, R, G) = some (R', G') ∧ RS R' N' ∧ N' 0 = nI pts ∧ cnt N' = cnt N + n ∧ En G' ∧ GF G G' := by
  intro xs
  induction xs with
  | nil =>
    intro n i m R N G hN hn w h hi hm
    obtain ⟨m, rfl⟩ : ∃ k, m = k + 1 := ⟨m - 1, by omega⟩
    obtain ⟨h1, rfl⟩ := h
    refine ⟨R, N, G, ?_, w, hN, rfl, h1, gf_r⟩
    refine wl_en (f := fun t : Int32 × RowS × GlbS => l_X4_read_51 200 t.1 t.2.1 t.2.2) (s := (nI i, R, G)) ?_
    show l_X4_read_51 200 (nI i) R G = _
    obtain ⟨p, a, k⟩ := h1
    have go : f_X5_goesOn G = false := by
      unfold f_X5_goesOn
      rw [a.2.2.2.2.1, if_pos rfl, k, if_pos rfl]
    simp only [List.length_nil] at hi
    unfold l_X4_read_51
    rw [show (600 : Int32) = nI 600 from rfl, if_neg (by rw [nI_leI (by omega) (by omega)]; omega), go, lt_eq, if_neg (by decide)]
  | cons x xs ih =>
    intro n i m R N G hN hn w h hi hm
    obtain ⟨m, rfl⟩ : ∃ k, m = k + 1 := ⟨m - 1, by omega⟩
    simp only [List.length_cons] at hi hm
    obtain ⟨R1, N1, G1, n1, a1, a2, a3, a4, a5, a6, a7⟩ := nx_clause hp hN hn w h
    obtain ⟨G2, b1, b2, b3⟩ := tk_sign a2 (ad_next xs n1 a6)
    obtain ⟨R', N', G', c1, c2, c3, c4, c5, c6⟩ := ih n1 (i + 1) m R1 N1 G2 (a5.trans hN) (by omega) a4 b2 (by omega) (by omega)
    refine ⟨R', N', G', ?_, c2, c3, by omega, c5, gf_t a3 (gf_t b3 c6)⟩
    refine (wl_st (f := fun t : Int32 × RowS × GlbS => l_X4_read_51 200 t.1 t.2.1 t.2.2) (s := (nI i, R, G)) ?_).trans c1
    show l_X4_read_51 200 (nI i) R G = _
    unfold l_X4_read_51
    rw [show (600 : Int32) = nI 600 from rfl, if_neg (by rw [nI_leI (by omega) (by omega)]; omega), nx_on h, lt_eq, if_pos rfl, a1, ob_some]
    simp only [lt]
    rw [b1, ob_some]
    simp only [nI_1]
theorem rd_ok {pts n : Nat} {R : RowS} {G : GlbS} {xs : List (List Nat)} (h2 : 2 ≤ pts) (h8 : pts ≤ 8) (V : Vc pts xs n) (hn : n ≤ 12) (hx : xs.length < 200) (h : Wd G (zl 0) (spd (nI pts).toInt ++ (spd (50000 : Int32).toInt ++ ([59] ++ xs.flatten)))) : ∃ R' N' G', f_X4_read 200 R G = some (R', G') ∧ RS R' N' ∧ N' 0 = nI pts ∧ cnt N' = n ∧ En G' ∧ GF G G' := by
  have bp : bd (nI pts) 2 8 := by unfold bd; rw [nI_toInt (by omega)]; omega
  have b5 : bd (50000 : Int32) 0 99999 := by unfold bd; decide
  obtain ⟨n1, n2_, n3⟩ := num_ok (lo := 2) (hi := 8) bp (by decide) rfl rfl
  obtain ⟨m1, m2, m3⟩ := num_ok (lo := 0) (hi := 99999) b5 (by decide) rfl rfl
  have bp' := bp
  unfold bd at bp'
  obtain ⟨G1, a1, a2, a3⟩ := tk_word (i := 9) (by decide) z_leg.2.2.2.2.1 h (ad_num (v := (nI pts).toInt) (by omega) (by omega) nod_spd)
  obtain ⟨G2, c1, c2, c3⟩ := tk_num a2 n2_ n3 (ad_num (v := (50000 : Int32).toInt) (by decide) (by decide) nod_59)
  obtain ⟨G3, d1, d2, d3⟩ := tk_num c2 m2 m3 ad_semi
  rw [n1] at c1
  rw [m1] at d1
  obtain ⟨R1, e1, e2, -⟩ := c_clear (R := R) (a := nI pts) (b := 50000) (n := 200) (by decide)
  obtain ⟨G4, f1, f2, f3⟩ := tk_sign d2 (ad_next xs n V)
  have W : RS R1 (begN (nI pts) 50000) := ⟨beg_wf bp b5, e2⟩
  obtain ⟨R', N', G', g1, g2, g3, g4, g5, g6⟩ := rd_loop h8 xs n 0 200 R1 _ G4 rfl (by rw [beg_cnt]; omega) W f2 (by omega) hx
  refine ⟨R', N', G', ?_, g2, g3, by rw [g4, beg_cnt]; omega, g5, gf_t a3 (gf_t c3 (gf_t d3 (gf_t f3 g6)))⟩
  have g1' : wloop (fun t : Int32 × RowS × GlbS => l_X4_read_51 200 t.1 t.2.1 t.2.2) 200 (0, R1, G4) = some (R', G') := g1
  unfold f_X4_read
  rw [a1, ob_some, lt_eq, c1, ob_some, lt_eq, lt_eq, d1, ob_some, lt_eq, lt_eq, e1, ob_some, lt_eq, f1, ob_some, lt_eq, g1', ob_some]
  rfl
