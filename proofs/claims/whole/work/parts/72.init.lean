/-! formattedByte; the beginning -/
section FB
variable {P : RowsS} {G : GlbS} {M : RowS}
theorem fb_and : ∀ j, j < 128 → (((nI j &&& 255).toUInt32 % 65536).toInt32) = nI j := by decide +kernel
theorem ok_formattedByte (I : Inv P G M) (a1 : Int32) : OK_formattedByte Inv P G M a1 := by
  unfold OK_formattedByte f_X7_formattedByte f_X8_formattedByte f_J4_length_8abf5 f_J5_length_8abf5
  have I0 : Inv P G (si M 0 0 0) := I
  simp only [lt]
  generalize si M 0 0 0 = M0 at I0 ⊢
  obtain ⟨m, h1, h2, h3, h4⟩ := id I0.2.2.2.2.2
  rw [h2, h3]
  have e0 : (0 : Int64).toInt = 0 := rfl
  have e1 : (0 : Int32).toInt = 0 := rfl
  rcases pk_ix a1 (n := m) (by omega) with q | q | ⟨j, q1, q2⟩
  · refine ⟨-1, -1, M0, if_pos q, ?_, rfl, I0⟩
    rw [i32_lt, e1] at q
    rw [in_f (by rw [e0, i32_ext]; omega), if_neg Bool.false_ne_true]
  · have q3 : ¬ a1 < 0 := by rw [i32_lt, e1]; rw [i32_le, nI_toInt (by omega)] at q; omega
    refine ⟨-1, -1, M0, (if_neg q3).trans (if_pos q), ?_, rfl, I0⟩
    rw [i32_le, nI_toInt (by omega)] at q
    rw [in_f (by rw [pm1 (by omega), i32_ext]; omega), if_neg Bool.false_ne_true]
  · subst q2
    obtain ⟨b1, b2⟩ := h4 j q1
    obtain ⟨v, hv, ev⟩ : ∃ v : Nat, v < 128 ∧ M0.1 21 j = nI v := ⟨(M0.1 21 j).toInt.toNat, by unfold bd at b1; omega, gI_of (by unfold bd at b1; omega)⟩
    refine ⟨nI v, nI v, M0, ?_, ?_, rfl, I0⟩
    · refine (if_neg (nI_pos (by omega))).trans ((if_neg (show ¬ nI m ≤ nI j by rw [nI_leI (by omega) (by omega)]; omega)).trans ?_)
      unfold f_J4_charAt_5068e f_J5_charAt_5068e f_J0_checkIndex_df160 f_J3_checkIndex_8e157
      have ejm : jmin (nI m) 16 = nI m := by
        unfold jmin
        rw [show (16 : Int32) = nI 16 from rfl, if_neg (by rw [nI_ltI (by omega) (by omega)]; omega)]
      simp only [lt]
      rw [h2, ejm, if_neg (nI_pos (by omega)), if_pos (nI_lt q1 (by omega)), ob_some, ob_some, if_pos (by rw [nI_toInt (by omega)]; omega), nI_clamp (by omega), b2, ev, fb_and v hv, ob_some, if_pos (by rw [nI_toInt (by omega)]; omega), ob_some]
    · rw [in_iff.mpr (by rw [e0, pm1 (by omega), i32_ext, nI_toInt (by omega)]; omega), if_pos rfl, if_pos (by rw [nI_toInt (by omega)]; omega), nI_clamp (by omega), ev]
end FB
