/-! LOADED: the class takes the text -/
theorem st_0 {N N' : Nat → Int32} (e : StEq N N') : N' 0 = N 0 := e 0 (fun t _ => by omega)
theorem acc_0 : Acc Zq := fun j _ => show (0 : Int64) = 0 - 0 from by decide
theorem load_ok {P : RowsS} {G : GlbS} {pts n f : Nat} {xs : List (List Nat)} {l : List Nat} (h2 : 2 ≤ pts) (h8 : pts ≤ 8) (V : Vc pts xs n) (hn : n ≤ 12) (hx : xs.length < 200) (hl : l = zl 0 ++ (spd (nI pts).toInt ++ (spd (50000 : Int32).toInt ++ ([59] ++ xs.flatten)))) (hb : ∀ b ∈ l, b < 128) (hf : l.length ≤ f) (hf2 : f ≤ 600) (B : Bf G f (padB l)) : ∃ P' G' N S, f_X7_load 200 P G (nI l.length) = some (cS N 0 (cnt N), P', G') ∧ Good (P' 0) N S ∧ IH G' ∧ G' 3 8 = -1 ∧ N 0 = nI pts ∧ cnt N = n := by
  obtain ⟨G4, hG4⟩ : ∃ G4, G4 = sg (sg (sg (sg G 3 2 (nI l.length)) 3 3 0) 3 7 0) 3 8 (-1) := ⟨_, rfl⟩
  have x2 : G4 3 2 = nI l.length := by rw [hG4, sg_ne (Or.inr (by decide)), sg_ne (Or.inr (by decide)), sg_ne (Or.inr (by decide)), sg_at]
  have x3 : G4 3 3 = 0 := by rw [hG4, sg_ne (Or.inr (by decide)), sg_ne (Or.inr (by decide)), sg_at]
  have x7 : G4 3 7 = 0 := by rw [hG4, sg_ne (Or.inr (by decide)), sg_at]
  have x8 : G4 3 8 = -1 := by rw [hG4, sg_at]
  have x4 : G4 4 = G 4 := by rw [hG4, sg_c (by decide), sg_c (by decide), sg_c (by decide), sg_c (by decide)]
  have la : Lx G4 l := ⟨0, x3, by rw [x2, Nat.zero_add], by omega, fun k hk => by
    have e := B.2 k (by omega)
    have hlt := padB_lt hb k
    have ep : padB l k = l.getD k 0 := by unfold padB; rw [if_pos hk]
    rw [ep] at e hlt
    rw [x4, Nat.zero_add]
    exact ⟨e, hlt⟩, x7, x8⟩
  rw [hl] at la
  obtain ⟨G5, a1, a2, a3⟩ := ad_word (by rw [z_num.2.2.2.2.2.2.1]; decide) (by rw [z_num.2.2.2.2.2.2.1]; decide) (by rw [z_num.2.2.2.2.2.2.1]; exact z_let.2.2.2.2) nol_spd G4 la
  obtain ⟨R1, N1, G6, b1, b2, b3, b4, b5, b6⟩ := rd_ok (R := P 1) h2 h8 V hn hx a2
  obtain ⟨R2, c1, c2⟩ := c_copy (R := (va_up P 1 R1) 0) (R2 := (va_up P 1 R1) 1) (c := cnt N1) (n := 200) (by decide) (by rw [b4]; exact hn) (by rw [va_up_self, b2.2.2.2.1, n2 b2.1])
  have r2 : Rel R2 N1 Zq := by
    rw [va_up_self] at c2
    exact rel_same c2 b2.2
  obtain ⟨R3, d1, d2⟩ := settle_good b2.1 (z_wfS b2.1) acc_0 r2
  obtain ⟨c, f1, f2, f3, f4, f5, f6, f7, f8⟩ := settle_facts b2.1 (z_wfS b2.1)
  obtain ⟨p, la6, -⟩ := b5
  obtain ⟨G7, hG7⟩ : ∃ G7, G7 = sg (sg (sg (sg G6 3 1 0) 1 1 0) 1 2 0) 0 6 0 := ⟨_, rfl⟩
  refine ⟨va_up (va_up (va_up P 1 R1) 0 R2) 0 R3, G7, _, _, ?_, by rw [va_up_self]; exact d2, ⟨0, 0, by decide, by decide, ?_, ?_⟩, ?_, (st_0 f4).trans b3, (st_cnt f4).trans b4⟩
  · have w : f_X7_requireWithin (nI l.length) 0 (G 3 1) = some () := within_ok (by rw [nI_toInt (by omega)]; exact Int.natCast_nonneg _) (by rw [B.1, nI_toInt (by omega), nI_toInt (by omega)]; omega)
    have bg : f_X5_begin 200 G (nI l.length) = some G5 := by
      have j : jmin (nI l.length) 600 = nI l.length := by
        unfold jmin
        rw [show (600 : Int32) = nI 600 from rfl, if_neg (by rw [nI_ltI (by omega) (by omega)]; omega)]
      unfold f_X5_begin
      simp only [lt]
      rw [j, ← hG4, a1, ob_some]
    have e7 : (sg G6 3 1 0) 3 7 = 0 := by rw [sg_ne (Or.inr (by decide))]; exact la6.2.2.2.2.1
    unfold f_X7_load
    rw [w, ob_some, bg, ob_some, lt_eq, b1, ob_some, lt_eq, lt_eq, lt_eq, lt_eq, if_pos (show (f_X5_empty (R1, G6).2) 3 7 = 0 from e7), c1, ob_some, lt_eq]
    rw [show (va_up (va_up P 1 R1) 0 R2) 0 = R2 from va_up_self _ _ _, d1, ob_some, lt_eq]
    rw [show (va_up (va_up (va_up P 1 R1) 0 R2) 0 R3) 0 = R3 from va_up_self _ _ _, c_state d2.1 d2.2.2.2.2.1 0 (by decide), hG7]
    rfl
  · rw [hG7, sg_c (by decide), sg_ne (Or.inr (by decide))]; exact sg_at
  · rw [hG7, sg_c (by decide)]; exact sg_at
  · rw [hG7, sg_c (by decide), sg_c (by decide), sg_c (by decide), sg_ne (Or.inr (by decide))]; exact la6.2.2.2.2.2
