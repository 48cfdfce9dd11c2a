/-! FEED: the text comes into the buffer, four bytes in a number -/
theorem c_byte {G : GlbS} {f : Nat} (hf : f < 600) (h : G 3 1 = nI f) {a z : Int32} (hz : ¬ z < 0) : l_X5_append_3 a z G = some (.inl (z + (-8), sg (sg G 4 f ((a >>> (z &&& 31)).toInt8.toInt32)) 3 1 (nI (f + 1)))) := by
  unfold l_X5_append_3 b_X5_append_49
  rw [if_neg hz, h, if_neg (nI_pos (by omega)), show (600 : Int32) = nI 600 from rfl, if_neg (by rw [nI_leI (by omega) (by omega)]; omega), nI_clamp (by omega)]
  have e : (sg G 4 f ((a >>> (z &&& 31)).toInt8.toInt32)) 3 1 = nI f := by rw [sg_c (by decide)]; exact h
  simp only [lt, e, nI_1]
theorem or_sum {a b : Nat} (h : a < 256) : nI (b * 256) ||| nI a = nI (b * 256 + a) := by
  have e := Nat.two_pow_add_eq_or_of_lt (i := 8) h b
  apply Int32.toBitVec_inj.mp
  rw [Int32.toBitVec_or]
  show BitVec.ofNat 32 (b * 256) ||| BitVec.ofNat 32 a = BitVec.ofNat 32 (b * 256 + a)
  rw [← BitVec.ofNat_or, Nat.mul_comm b 256, show 256 = 2 ^ 8 from rfl, e]
theorem byte_nI {x : Nat} (h : x < 2 ^ 31) (h2 : x % 256 < 128) : (nI x).toInt8.toInt32 = nI (x % 256) := by
  apply i32_eq
  rw [Int8.toInt_toInt32, Int32.toInt_toInt8, nI_toInt h, nI_toInt (by omega)]
  have e : ((x : Int)) % ((2 ^ 8 : Nat) : Int) = ((x % 256 : Nat) : Int) := by
    rw [show ((2 ^ 8 : Nat) : Int) = 256 from rfl]; omega
  unfold Int.bmod
  rw [e]
  rw [if_pos (by show ((x % 256 : Nat) : Int) < ((2 ^ 8 : Nat) + 1 : Int) / 2; rw [show (((2 ^ 8 : Nat) : Int) + 1) / 2 = 128 from rfl]; omega)]
def wv (f : Nat → Nat) : Nat → Nat
  | 0 => 0
  | m + 1 => wv f m * 256 + f m
theorem wv_bd {f : Nat → Nat} (hf : ∀ j, f j < 128) {m : Nat} (hm : m ≤ 4) : wv f m < 2 ^ 31 ∧ (m < 4 → wv f m < 2 ^ 23) := by
  have f0 := hf 0
  have f1 := hf 1
  have f2 := hf 2
  have f3 := hf 3
  have : m = 0 ∨ m = 1 ∨ m = 2 ∨ m = 3 ∨ m = 4 := by omega
  rcases this with rfl | rfl | rfl | rfl | rfl <;> simp only [wv] <;> omega
theorem wv_parts {f : Nat → Nat} (hf : ∀ j, f j < 128) : wv f 4 / 2 ^ 24 % 256 = f 0 ∧ wv f 4 / 2 ^ 16 % 256 = f 1 ∧ wv f 4 / 2 ^ 8 % 256 = f 2 ∧ wv f 4 / 2 ^ 0 % 256 = f 3 := by
  have f0 := hf 0
  have f1 := hf 1
  have f2 := hf 2
  have f3 := hf 3
  simp only [wv]
  omega
/-- what an append writes -/
def Bf (G : GlbS) (f : Nat) (pb : Nat → Nat) : Prop := G 3 1 = nI f ∧ ∀ k, k < f → G 4 k = nI (pb k)
def FrB (G G' : GlbS) : Prop := (∀ c, c ≠ 3 → c ≠ 4 → G' c = G c) ∧ ∀ k, k ≠ 1 → G' 3 k = G 3 k
theorem frb_r {G : GlbS} : FrB G G := ⟨fun _ _ _ => rfl, fun _ _ => rfl⟩
theorem frb_t {A B C : GlbS} (h : FrB A B) (k : FrB B C) : FrB A C := ⟨fun c h1 h2 => (k.1 c h1 h2).trans (h.1 c h1 h2), fun c h1 => (k.2 c h1).trans (h.2 c h1)⟩
theorem bf_put {G : GlbS} {f : Nat} {pb : Nat → Nat} (b : Bf G f pb) {v : Int32} (hv : v = nI (pb f)) : Bf (sg (sg G 4 f v) 3 1 (nI (f + 1))) (f + 1) pb ∧ FrB G (sg (sg G 4 f v) 3 1 (nI (f + 1))) := by
  refine ⟨⟨sg_at, fun k hk => ?_⟩, fun c h3 h4 => by rw [sg_c h3, sg_c h4], fun k hk => by rw [sg_ne (Or.inr hk), sg_c (by decide)]⟩
  rw [sg_c (by decide)]
  by_cases q : k = f
  · subst q
    rw [sg_at, hv]
  · rw [sg_ne (Or.inr q)]
    exact b.2 k (by omega)
theorem app_own {G : GlbS} {f : Nat} {pb : Nat → Nat} (hp : ∀ k, pb k < 128) (b : Bf G f pb) (hf : f + 4 ≤ 600) : ∃ G', f_X5_append 200 G (nI (wv (fun j => pb (f + j)) 4)) = some G' ∧ Bf G' (f + 4) pb ∧ FrB G G' := by
  obtain ⟨w0, w1, w2, w3⟩ := wv_parts (f := fun j => pb (f + j)) (fun j => hp _)
  have hw := (wv_bd (f := fun j => pb (f + j)) (fun j => hp _) (m := 4) (Nat.le_refl _)).1
  have h0 := hp (f + 0)
  have h1 := hp (f + 1)
  have h2 := hp (f + 2)
  have h3 := hp (f + 3)
  generalize wv (fun j => pb (f + j)) 4 = w at w0 w1 w2 w3 hw
  have dv : ∀ k, w / 2 ^ k < 2 ^ 31 := fun k => Nat.lt_of_le_of_lt (Nat.div_le_self _ _) hw
  have v0 : (nI w >>> ((24 : Int32) &&& 31)).toInt8.toInt32 = nI (pb f) := by
    rw [pk_shrN hw _ 24 (by decide), byte_nI (dv 24) (by omega), w0]; rfl
  have v1 : (nI w >>> ((16 : Int32) &&& 31)).toInt8.toInt32 = nI (pb (f + 1)) := by
    rw [pk_shrN hw _ 16 (by decide), byte_nI (dv 16) (by omega), w1]
  have v2 : (nI w >>> ((8 : Int32) &&& 31)).toInt8.toInt32 = nI (pb (f + 1 + 1)) := by
    rw [pk_shrN hw _ 8 (by decide), byte_nI (dv 8) (by omega), w2]
  have v3 : (nI w >>> ((0 : Int32) &&& 31)).toInt8.toInt32 = nI (pb (f + 1 + 1 + 1)) := by
    rw [pk_shrN hw _ 0 (by decide), byte_nI (dv 0) (by omega), w3]
  have c1 := c_byte (f := f) (by omega) b.1 (a := nI w) (z := 24) (by decide)
  obtain ⟨b1, r1⟩ := bf_put b v0
  generalize sg (sg G 4 f ((nI w >>> ((24 : Int32) &&& 31)).toInt8.toInt32)) 3 1 (nI (f + 1)) = G1 at b1 c1 r1
  have c2 := c_byte (f := f + 1) (by omega) b1.1 (a := nI w) (z := 16) (by decide)
  obtain ⟨b2, r2⟩ := bf_put b1 v1
  generalize sg (sg G1 4 (f + 1) ((nI w >>> ((16 : Int32) &&& 31)).toInt8.toInt32)) 3 1 (nI (f + 1 + 1)) = G2 at b2 c2 r2
  have c3 := c_byte (f := f + 1 + 1) (by omega) b2.1 (a := nI w) (z := 8) (by decide)
  obtain ⟨b3, r3⟩ := bf_put b2 v2
  generalize sg (sg G2 4 (f + 1 + 1) ((nI w >>> ((8 : Int32) &&& 31)).toInt8.toInt32)) 3 1 (nI (f + 1 + 1 + 1)) = G3 at b3 c3 r3
  have c4 := c_byte (f := f + 1 + 1 + 1) (by omega) b3.1 (a := nI w) (z := 0) (by decide)
  obtain ⟨b4, r4⟩ := bf_put b3 v3
  generalize sg (sg G3 4 (f + 1 + 1 + 1) ((nI w >>> ((0 : Int32) &&& 31)).toInt8.toInt32)) 3 1 (nI (f + 1 + 1 + 1 + 1)) = G4 at b4 c4 r4
  refine ⟨G4, ?_, b4, frb_t r1 (frb_t r2 (frb_t r3 r4))⟩
  have e : wloop (fun t : Int32 × GlbS => l_X5_append_3 (nI w) t.1 t.2) 200 (24, G) = some G4 := by
    refine (wl_st (f := fun t : Int32 × GlbS => l_X5_append_3 (nI w) t.1 t.2) (n := 199) (s := (24, G)) c1).trans ?_
    refine (wl_st (f := fun t : Int32 × GlbS => l_X5_append_3 (nI w) t.1 t.2) (n := 198) (s := (16, G1)) c2).trans ?_
    refine (wl_st (f := fun t : Int32 × GlbS => l_X5_append_3 (nI w) t.1 t.2) (n := 197) (s := (8, G2)) c3).trans ?_
    refine (wl_st (f := fun t : Int32 × GlbS => l_X5_append_3 (nI w) t.1 t.2) (n := 196) (s := (0, G3)) c4).trans ?_
    refine wl_en (n := 195) ?_
    show l_X5_append_3 (nI w) ((0 : Int32) + (-8)) G4 = _
    unfold l_X5_append_3
    rw [if_pos (by decide)]
  unfold f_X5_append
  rw [e]
  rfl
theorem feed_own {P : RowsS} {G : GlbS} {f : Nat} {pb : Nat → Nat} (hp : ∀ k, pb k < 128) (b : Bf G f pb) (hf : f + 20 ≤ 600) : ∃ y G', f_X7_feed 200 P G (nI (wv (fun j => pb (f + j)) 4)) (nI (wv (fun j => pb (f + 4 + j)) 4)) (nI (wv (fun j => pb (f + 8 + j)) 4)) (nI (wv (fun j => pb (f + 12 + j)) 4)) (nI (wv (fun j => pb (f + 16 + j)) 4)) = some (y, G') ∧ Bf G' (f + 20) pb ∧ FrB G G' := by
  obtain ⟨G1, x1, z1, r1⟩ := app_own hp b (by omega)
  obtain ⟨G2, x2, z2, r2⟩ := app_own hp z1 (by omega)
  obtain ⟨G3, x3, z3, r3⟩ := app_own hp z2 (by omega)
  obtain ⟨G4, x4, z4, r4⟩ := app_own hp z3 (by omega)
  obtain ⟨G5, x5, z5, r5⟩ := app_own hp z4 (by omega)
  simp only [Nat.add_assoc f, Nat.reduceAdd] at x2 x3 x4 x5 z5
  refine ⟨G5 3 1, G5, ?_, z5, frb_t r1 (frb_t r2 (frb_t r3 (frb_t r4 r5)))⟩
  have hr : f_X5_hasRoomFor G 20 = true := by
    unfold f_X5_hasRoomFor
    rw [b.1, show (20 : Int32) = nI 20 from rfl, nI_add, show (600 : Int32) = nI 600 from rfl, if_neg (by rw [nI_ltI (by omega) (by omega)]; omega)]
  unfold f_X7_feed
  simp only [Nat.add_assoc f]
  rw [hr, lt_eq, if_pos rfl, x1, ob_some, lt_eq, x2, ob_some, lt_eq, x3, ob_some, lt_eq, x4, ob_some, lt_eq, x5, ob_some, lt_eq]
def padB (l : List Nat) (k : Nat) : Nat := if k < l.length then l.getD k 0 else 32
theorem padB_lt {l : List Nat} (hb : ∀ b ∈ l, b < 128) (k : Nat) : padB l k < 128 := by
  unfold padB
  by_cases q : k < l.length
  · rw [if_pos q, List.getD_eq_getElem?_getD, List.getElem?_eq_getElem q]
    exact hb _ (List.getElem_mem q)
  · rw [if_neg q]; decide
/-- the five numbers of a feed -/
theorem five {G : GlbS} {l : List Nat} (T : Tx G l) (hl : l.length ≤ 600) (hb : ∀ b ∈ l, b < 128) {k : Nat} (hk : k ≤ 600) : ∃ B, wloop (fun t : Int32 × (Nat → Int32) => l_L_feeds_17 (nI k) G t.1 t.2) 200 (0, fun _ => 0) = some B ∧ ∀ q, q < 5 → B q = nI (wv (fun j => padB l (k + 4 * q + j)) 4) := by
  have hp := padB_lt hb
  refine wl_rel (f := fun t : Int32 × (Nat → Int32) => l_L_feeds_17 (nI k) G t.1 t.2) (fun i s => s.1 = nI i ∧ ∀ q, q < 5 → s.2 q = nI (wv (fun j => padB l (k + 4 * q + j)) (min 4 (i - 4 * q)))) _ 20 (fun i s hi hs => ?_) (fun s hs => ?_) 20 0 200 (0, fun _ => 0) (by omega) (by omega) ⟨rfl, fun q hq => by rw [show min 4 (0 - 4 * q) = 0 by omega]; rfl⟩
  · obtain ⟨x, B⟩ := s
    obtain ⟨g1, g2⟩ := hs
    simp only at g1 g2
    subst g1
    have hq : i / 4 < 5 := by omega
    have hm : min 4 (i - 4 * (i / 4)) = i % 4 := by omega
    have e1 := g2 (i / 4) hq
    rw [hm] at e1
    have hw := (wv_bd (f := fun j => padB l (k + 4 * (i / 4) + j)) (fun j => hp _) (m := i % 4) (by omega)).2 (by omega)
    have epos : k + 4 * (i / 4) + i % 4 = k + i := by omega
    have new : ∀ v, v = padB l (k + i) → (nI (wv (fun j => padB l (k + 4 * (i / 4) + j)) (i % 4)) <<< ((8 : Int32) &&& 31)) ||| nI v = nI (wv (fun j => padB l (k + 4 * (i / 4) + j)) (i % 4 + 1)) := by
      intro v hv
      rw [pk_shlN _ 8 (by decide) (by omega), show 2 ^ 8 = 256 from rfl, or_sum (by rw [hv]; have := hp (k + i); omega)]
      show _ = nI (wv _ (i % 4) * 256 + padB l (k + 4 * (i / 4) + i % 4))
      rw [epos, hv]
    refine ⟨(nI (i + 1), va_up B (i / 4) (nI (wv (fun j => padB l (k + 4 * (i / 4) + j)) (i % 4 + 1)))), ?_, rfl, fun q hq' => ?_⟩
    · show l_L_feeds_17 (nI k) G (nI i) B = _
      unfold l_L_feeds_17
      rw [show (20 : Int32) = nI 20 from rfl, if_neg (by rw [nI_leI (by omega) (by omega)]; omega), show (4 : Int32) = nI 4 from rfl, quo_nI (by omega) (by omega), if_pos (by rw [nI_toInt (by omega)]; omega), nI_clamp (by omega), e1, T.1, nI_add]
      have hin : 0 ≤ (nI (i / 4)).toInt ∧ (nI (i / 4)).toInt < 5 := by rw [nI_toInt (by omega)]; omega
      by_cases c : l.length ≤ k + i
      · rw [if_pos (by rw [nI_leI (by omega) (by omega)]; exact c)]
        have hv : 32 = padB l (k + i) := by unfold padB; rw [if_neg (by omega)]
        unfold b_L_feeds_63
        rw [if_pos hin, nI_clamp (by omega), show (32 : Int32) = nI 32 from rfl, new 32 hv]
        simp only [lt, nI_1]
      · rw [if_neg (by rw [nI_leI (by omega) (by omega)]; exact c), if_pos (by rw [nI_toInt (by omega)]; omega), nI_clamp (by omega), T.2.2 (k + i) (by omega)]
        have hv : l.getD (k + i) 0 = padB l (k + i) := by unfold padB; rw [if_pos (by omega)]
        unfold b_L_feeds_63
        rw [if_pos hin, nI_clamp (by omega), new _ hv]
        simp only [lt, nI_1]
    · show va_up B (i / 4) _ q = _
      by_cases c : q = i / 4
      · subst c
        rw [va_up_self, show min 4 (i + 1 - 4 * (i / 4)) = i % 4 + 1 by omega]
      · rw [va_up_ne _ _ c, g2 q hq', show min 4 (i + 1 - 4 * q) = min 4 (i - 4 * q) by omega]
  · obtain ⟨x, B⟩ := s
    obtain ⟨g1, g2⟩ := hs
    simp only at g1 g2
    subst g1
    refine ⟨B, ?_, fun q hq => ?_⟩
    · show l_L_feeds_17 (nI k) G (nI 20) B = _
      unfold l_L_feeds_17
      rw [if_pos (by decide)]
    · rw [g2 q hq, show min 4 (20 - 4 * q) = 4 by omega]
theorem feeds_ok {P : RowsS} {G : GlbS} {l : List Nat} (T : Tx G l) (hl : l.length ≤ 600) (hb : ∀ b ∈ l, b < 128) (h1 : G 3 1 = 0) : ∃ G' f, f_L_feeds P G = some (nI l.length, G') ∧ l.length ≤ f ∧ f ≤ 600 ∧ Bf G' f (padB l) ∧ (∀ c, c ≠ 3 → c ≠ 4 → c ≠ 7 → G' c = G c) ∧ ∀ k, k ≠ 1 → G' 3 k = G 3 k := by
  have hp := padB_lt hb
  obtain ⟨M, hM⟩ : ∃ M, M = (l.length + 19) / 20 := ⟨_, rfl⟩
  obtain ⟨G', k1, k2, k3⟩ := wl_rel (f := fun t : Int32 × GlbS => l_L_feeds_2 P t.1 t.2) (fun i s => s.1 = nI (20 * i) ∧ Bf s.2 (20 * i) (padB l) ∧ FrB G s.2) (fun r => Bf r (20 * M) (padB l) ∧ FrB G r) M (fun i s hi hs => by
    obtain ⟨x, G1⟩ := s
    obtain ⟨g1, g2, g3⟩ := hs
    simp only at g1 g2 g3
    subst g1
    have T1 : Tx G1 l := by
      obtain ⟨t1, t2, t3⟩ := T
      exact ⟨by rw [g3.1 7 (by decide) (by decide)]; exact t1, t2, fun k hk => by rw [g3.1 8 (by decide) (by decide)]; exact t3 k hk⟩
    obtain ⟨B, b1, b2⟩ := five T1 hl hb (k := 20 * i) (by omega)
    obtain ⟨y, G2, f1, f2, f3⟩ := feed_own (P := P) hp g2 (by omega)
    refine ⟨(nI (20 * (i + 1)), G2), ?_, rfl, by rw [show 20 * (i + 1) = 20 * i + 20 by omega]; exact f2, frb_t g3 f3⟩
    show l_L_feeds_2 P (nI (20 * i)) G1 = _
    have d0 : (0 : Int32).toNatClampNeg = 0 := rfl
    have d1 : (1 : Int32).toNatClampNeg = 1 := rfl
    have d2 : (2 : Int32).toNatClampNeg = 2 := rfl
    have d3 : (3 : Int32).toNatClampNeg = 3 := rfl
    have d4 : (4 : Int32).toNatClampNeg = 4 := rfl
    have c0 := b2 0 (by decide)
    have c1 := b2 1 (by decide)
    have c2 := b2 2 (by decide)
    have c3 := b2 3 (by decide)
    have c4 := b2 4 (by decide)
    simp only [Nat.mul_zero, Nat.add_zero, Nat.reduceMul] at c0 c1 c2 c3 c4
    unfold l_L_feeds_2
    rw [T1.1, if_neg (by rw [nI_leI (by omega) (by omega)]; omega), lt_eq, b1, ob_some]
    unfold b_L_feeds_71
    rw [if_pos (by decide), if_pos (by decide), if_pos (by decide), if_pos (by decide), if_pos (by decide), d0, d1, d2, d3, d4, c0, c1, c2, c3, c4, f1, ob_some, lt_eq, show (20 : Int32) = nI 20 from rfl, nI_add, lt_eq, show 20 * i + 20 = 20 * (i + 1) by omega]) (fun s hs => by
    obtain ⟨x, G1⟩ := s
    obtain ⟨g1, g2, g3⟩ := hs
    simp only at g1 g2 g3
    subst g1
    refine ⟨G1, ?_, g2, g3⟩
    show l_L_feeds_2 P (nI (20 * M)) G1 = _
    unfold l_L_feeds_2
    rw [g3.1 7 (by decide) (by decide), T.1, if_pos (by rw [nI_leI (by omega) (by omega)]; omega)]) M 0 200 (0, G) (by omega) (by omega) ⟨rfl, ⟨h1, fun k hk => by omega⟩, frb_r⟩
  refine ⟨sg G' 7 1 0, 20 * M, ?_, by omega, by omega, ⟨by rw [sg_c (by decide)]; exact k2.1, fun k hk => by rw [sg_c (by decide)]; exact k2.2 k hk⟩, fun c c3 c4 c7 => by rw [sg_c c7]; exact k3.1 c c3 c4, fun k hk => by rw [sg_c (by decide)]; exact k3.2 k hk⟩
  unfold f_L_feeds
  rw [k1, ob_some]
  unfold b_L_feeds_97
  rw [k3.1 7 (by decide) (by decide), T.1]
  rfl
