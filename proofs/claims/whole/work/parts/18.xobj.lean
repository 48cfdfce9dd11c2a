-- X7_requireWithin
def tb_X7_requireWithin_10   : Option Nat :=
  some 2
def t_X7_requireWithin (a1 : Int32) (a2 : Int32) (a3 : Int32) : Option Nat :=
  if a1 < a2 then
    tb_X7_requireWithin_10
  else
    if a1 ≤ a3 then
      some 0
    else
      tb_X7_requireWithin_10
abbrev rx_X7_requireWithin : Room := { frames := 6, cells := 1, slots := 6, locals := 83 }
set_option maxRecDepth 100000 in
set_option maxHeartbeats 4000000 in
theorem x_X7_requireWithin (l : Launch) (D : va_G) (ca : Nat → ClassId) (z : ZG) (hl0 : l.stackTraces = false) (ws : va_W) (a1 : Int32) (a2 : Int32) (a3 : Int32) (res : Nat) (hk : ¬ res = 0) (h0 : t_X7_requireWithin a1 a2 a3 = some res) (sz : Nat) : vx_Met l yX7_requireWithin (ws_ yX7_requireWithin cX7_requireWithin 3 none) rx_X7_requireWithin (PCz z D ca (ws) sz [.int a1, .int a2, .int a3]) QNo (XCw D (ws) sz (eX res)) 1 6 (AL (ws) sz) := by
  refine met_x (by decide) (Nat.le_of_ble_eq_true rfl) (fun p e s m args below meth c K hex hZ X hsz ls hl => ?_)
  have K : MC D ca p s m args meth c cX7_requireWithin 3 RX7 := K
  have hx := K.1
  have hb := K.2.1
  have hl : lv_has ls 3 [(0, .int a1), (1, .int a2), (2, .int a3)] := hl
  generalize hQ : vx_MQ below _ _ args s 1 6 _ = Q
  unfold t_X7_requireWithin at h0
  suffices Z : ∀ (H : Heap) (locs : List Loc) (X : RW D (ws) s.heap H locs), W p l e rx_X7_requireWithin s m args below meth c H locs 0 0 Q (F0 m 0 ls []) from Z _ _ X
  intro H locs X
  have J10 : ∀  (H : Heap) (locs : List Loc) (X : RW D (ws) s.heap H locs) (ls : Array Slot) (hl : lv_has ls 3 []) (h0 : tb_X7_requireWithin_10 = some res), W p l e rx_X7_requireWithin s m args below meth c H locs 0 0 Q (F0 m 10 ls []) := by
    intro  H locs X ls hl h0
    unfold tb_X7_requireWithin_10 at h0
    cases h0
    subst hQ
    exact z_throwW (cls := eI) K hex hl0 hZ X hsz hl.1 0 (by decide) ⟨rfl, rfl⟩ xe_fit.2 q560 q101 xat_I xot_I dX7_requireWithin_10 dX7_requireWithin_13 dX7_requireWithin_14 dX7_requireWithin_17 dX7_requireWithin_20 ⟨Nat.le_of_ble_eq_true rfl, Nat.le_of_ble_eq_true rfl, Nat.le_of_ble_eq_true rfl, Nat.le_of_ble_eq_true rfl⟩
  refine lv_iload_n hx hb dX7_requireWithin_0 rfl (lv_at hl 0 rfl) ?_
  refine lv_iload_n hx hb dX7_requireWithin_1 rfl (lv_at hl 1 rfl) ?_
  refine lv_icmp_lt (tgt := 10) hx hb dX7_requireWithin_2 (by decide) (fun c1 => ?_) (fun c1 => ?_)
  · have h0 := if_t c1 h0
    exact J10  H locs X ls (lv_sub hl [] rfl) h0
  · have h0 := if_f c1 h0
    refine lv_iload_n hx hb dX7_requireWithin_5 rfl (lv_at hl 0 rfl) ?_
    refine lv_iload_n hx hb dX7_requireWithin_6 rfl (lv_at hl 2 rfl) ?_
    refine lv_icmp_le (tgt := 21) hx hb dX7_requireWithin_7 (by decide) (fun c2 => ?_) (fun c2 => ?_)
    · have h0 := if_t c2 h0
      cases h0
      exact absurd rfl hk
    · have h0 := if_f c2 h0
      exact J10  H locs X ls (lv_sub hl [] rfl) h0
-- X7_load
def t_X7_load (P : RowsS) (G : GlbS) (a1 : Int32) : Option Nat :=
  ob (t_X7_requireWithin a1 0 (G 3 1)) fun kq1 =>
  if kq1 = 0 then
    ob (f_X7_requireWithin a1 0 (G 3 1)) fun x3 =>
    some 0
  else
    some kq1
abbrev rx_X7_load : Room := { frames := 7, cells := 1, slots := 6, locals := 105 }
set_option maxRecDepth 100000 in
set_option maxHeartbeats 4000000 in
theorem x_X7_load (l : Launch) (D : va_G) (ca : Nat → ClassId) (ar : Nat → Nat → Nat) (ag : Nat → Nat) (z : ZG) (hl0 : l.stackTraces = false) (P : RowsS) (G : GlbS) (xs : va_W) (a1 : Int32) (res : Nat) (hk : ¬ res = 0) (h0 : t_X7_load P G a1 = some res) (sz : Nat) : vx_Met l yX7_load (ws_ yX7_load cX7_load 3 (some .int)) rx_X7_load (PCz z D ca (wC ar ag ca P G ++ xs) sz [.ref (ag 0), .int a1]) QNo (XCw D (wC ar ag ca P G ++ xs) sz (eX res)) 1 6 (AL (wC ar ag ca P G ++ xs) sz) := by
  refine met_x (by decide) (Nat.le_of_ble_eq_true rfl) (fun p e s m args below meth c K hex hZ X hsz ls hl => ?_)
  have K : MC D ca p s m args meth c cX7_load 3 RX7 := K
  have hx := K.1
  have hb := K.2.1
  have hl : lv_has ls 3 [(0, .ref (ag 0)), (1, .int a1)] := hl
  generalize hQ : vx_MQ below _ _ args s 1 6 _ = Q
  unfold t_X7_load at h0
  suffices Z : ∀ (H : Heap) (locs : List Loc) (X : RW D (wC ar ag ca P G ++ xs) s.heap H locs), W p l e rx_X7_load s m args below meth c H locs 0 0 Q (F0 m 0 ls []) from Z _ _ X
  intro H locs X
  refine lv_iload_n hx hb dX7_load_0 rfl (lv_at hl 1 rfl) ?_
  refine lv_iconst (v := 0) hx hb dX7_load_1 (by decide) ?_
  refine lv_aload_n hx hb dX7_load_2 rfl (lv_at hl 0 rfl) ?_
  refine g_objr K X 4 (by decide) rfl q365 dX7_load_3 ?_
  refine g_toki K X 1 (by decide) q283 dX7_load_6 ?_
  obtain ⟨kq1, ekq1, h0⟩ := ob_out h0
  by_cases c2 : kq1 = 0
  · have h0 := if_t c2 h0
    obtain ⟨x3, ex3, h0⟩ := ob_out h0
    have kx3 := m_X7_requireWithin l D ca z (wC ar ag ca P G ++ xs) a1 0 (G 3 1)  ex3 H.size
    refine z_callS K hZ X wC_fstx wC_fstx kx3 hl.1 3 q557 q558 q87 q559 hs_X7_requireWithin ⟨⟨Nat.le_of_ble_eq_true rfl, Nat.le_of_ble_eq_true rfl⟩, rfl, rfl⟩ rfl rfl (Nat.le_of_ble_eq_true rfl) dX7_load_9 ⟨Nat.le_of_ble_eq_true rfl, Nat.le_of_ble_eq_true rfl⟩ rfl (fun H locs X => ?_)
    cases h0
    exact absurd rfl hk
  · have h0 := if_f c2 h0
    cases h0
    subst hQ
    have kx := x_X7_requireWithin l D ca z hl0 (wC ar ag ca P G ++ xs) a1 0 (G 3 1) res c2 ekq1 H.size
    exact z_xcallS K hex hZ X wC_fstx hsz kx hl.1 3 q557 q558 q87 q559 hs_X7_requireWithin ⟨⟨Nat.le_of_ble_eq_true rfl, Nat.le_of_ble_eq_true rfl⟩, rfl, rfl⟩ rfl rfl (Nat.le_of_ble_eq_true rfl) dX7_load_9 ⟨Nat.le_of_ble_eq_true rfl, Nat.le_of_ble_eq_true rfl⟩
-- X7_size
def t_X7_size (P : RowsS) (G : GlbS) (a1 : Int32) : Option Nat :=
  if a1 = 0 then
    some 0
  else if a1 = 1 then
    some 0
  else if a1 = 2 then
    some 0
  else if a1 = 3 then
    some 0
  else if a1 = 4 then
    some 0
  else if a1 = 5 then
    some 0
  else if a1 = 6 then
    some 0
  else if a1 = 7 then
    some 0
  else some 1
abbrev rx_X7_size : Room := { frames := 6, cells := 1, slots := 6, locals := 83 }
set_option maxRecDepth 100000 in
set_option maxHeartbeats 4000000 in
theorem x_X7_size (l : Launch) (D : va_G) (ca : Nat → ClassId) (ar : Nat → Nat → Nat) (ag : Nat → Nat) (z : ZG) (hl0 : l.stackTraces = false) (P : RowsS) (G : GlbS) (xs : va_W) (a1 : Int32) (res : Nat) (hk : ¬ res = 0) (h0 : t_X7_size P G a1 = some res) (sz : Nat) : vx_Met l yX7_size (ws_ yX7_size cX7_size 2 (some .int)) rx_X7_size (PCz z D ca (wC ar ag ca P G ++ xs) sz [.ref (ag 0), .int a1]) QNo (XCw D (wC ar ag ca P G ++ xs) sz (eX res)) 1 6 (AL (wC ar ag ca P G ++ xs) sz) := by
  refine met_x (by decide) (Nat.le_of_ble_eq_true rfl) (fun p e s m args below meth c K hex hZ X hsz ls hl => ?_)
  have K : MC D ca p s m args meth c cX7_size 2 RX7 := K
  have hx := K.1
  have hb := K.2.1
  have hl : lv_has ls 2 [(0, .ref (ag 0)), (1, .int a1)] := hl
  generalize hQ : vx_MQ below _ _ args s 1 6 _ = Q
  unfold t_X7_size at h0
  suffices Z : ∀ (H : Heap) (locs : List Loc) (X : RW D (wC ar ag ca P G ++ xs) s.heap H locs), W p l e rx_X7_size s m args below meth c H locs 0 0 Q (F0 m 0 ls []) from Z _ _ X
  intro H locs X
  refine lv_iload_n hx hb dX7_size_0 rfl (lv_at hl 1 rfl) ?_
  by_cases c1 : a1 = 0
  · have h0 := if_t c1 h0
    refine lv_tableIn (off := 47) (tgt := 48) hx hb dX7_size_1 (by rw [c1]; decide) (by rw [c1]; decide) (by rw [c1]; decide) (by decide) ?_
    cases h0
    exact absurd rfl hk
  have h0 := if_f c1 h0
  by_cases c2 : a1 = 1
  · have h0 := if_t c2 h0
    refine lv_tableIn (off := 55) (tgt := 56) hx hb dX7_size_1 (by rw [c2]; decide) (by rw [c2]; decide) (by rw [c2]; decide) (by decide) ?_
    cases h0
    exact absurd rfl hk
  have h0 := if_f c2 h0
  by_cases c3 : a1 = 2
  · have h0 := if_t c3 h0
    refine lv_tableIn (off := 63) (tgt := 64) hx hb dX7_size_1 (by rw [c3]; decide) (by rw [c3]; decide) (by rw [c3]; decide) (by decide) ?_
    cases h0
    exact absurd rfl hk
  have h0 := if_f c3 h0
  by_cases c4 : a1 = 3
  · have h0 := if_t c4 h0
    refine lv_tableIn (off := 71) (tgt := 72) hx hb dX7_size_1 (by rw [c4]; decide) (by rw [c4]; decide) (by rw [c4]; decide) (by decide) ?_
    cases h0
    exact absurd rfl hk
  have h0 := if_f c4 h0
  by_cases c5 : a1 = 4
  · have h0 := if_t c5 h0
    refine lv_tableIn (off := 80) (tgt := 81) hx hb dX7_size_1 (by rw [c5]; decide) (by rw [c5]; decide) (by rw [c5]; decide) (by decide) ?_
    cases h0
    exact absurd rfl hk
  have h0 := if_f c5 h0
  by_cases c6 : a1 = 5
  · have h0 := if_t c6 h0
    refine lv_tableIn (off := 89) (tgt := 90) hx hb dX7_size_1 (by rw [c6]; decide) (by rw [c6]; decide) (by rw [c6]; decide) (by decide) ?_
    cases h0
    exact absurd rfl hk
  have h0 := if_f c6 h0
  by_cases c7 : a1 = 6
  · have h0 := if_t c7 h0
    refine lv_tableIn (off := 98) (tgt := 99) hx hb dX7_size_1 (by rw [c7]; decide) (by rw [c7]; decide) (by rw [c7]; decide) (by decide) ?_
    cases h0
    exact absurd rfl hk
  have h0 := if_f c7 h0
  by_cases c8 : a1 = 7
  · have h0 := if_t c8 h0
    refine lv_tableIn (off := 107) (tgt := 108) hx hb dX7_size_1 (by rw [c8]; decide) (by rw [c8]; decide) (by rw [c8]; decide) (by decide) ?_
    cases h0
    exact absurd rfl hk
  have h0 := if_f c8 h0
  refine lv_tableOut (tgt := 117) hx hb dX7_size_1 (by have gc1 := lv_neT (a := 0) c1 (by decide); have gc2 := lv_neT (a := 1) c2 (by decide); have gc3 := lv_neT (a := 2) c3 (by decide); have gc4 := lv_neT (a := 3) c4 (by decide); have gc5 := lv_neT (a := 4) c5 (by decide); have gc6 := lv_neT (a := 5) c6 (by decide); have gc7 := lv_neT (a := 6) c7 (by decide); have gc8 := lv_neT (a := 7) c8 (by decide); omega) (by decide) ?_
  cases h0
  subst hQ
  exact z_thrN (i := 6) K hex hl0 hZ X hsz hl.1 (by decide) ⟨rfl, rfl⟩ q828 q106 dX7_size_117 dX7_size_120 dX7_size_121 dX7_size_123 dX7_size_126 ⟨Nat.le_of_ble_eq_true rfl, Nat.le_of_ble_eq_true rfl, Nat.le_of_ble_eq_true rfl, Nat.le_of_ble_eq_true rfl⟩
-- X7_requirePoint
def tb_X7_requirePoint_15   : Option Nat :=
  some 1
def t_X7_requirePoint (P : RowsS) (G : GlbS) (a1 : Int32) : Option Nat :=
  if a1 < 0 then
    tb_X7_requirePoint_15
  else
    if a1 < ((P 0).1 0 0) then
      some 0
    else
      tb_X7_requirePoint_15
abbrev rx_X7_requirePoint : Room := { frames := 6, cells := 1, slots := 6, locals := 83 }
set_option maxRecDepth 100000 in
set_option maxHeartbeats 4000000 in
theorem x_X7_requirePoint (l : Launch) (D : va_G) (ca : Nat → ClassId) (ar : Nat → Nat → Nat) (ag : Nat → Nat) (z : ZG) (hl0 : l.stackTraces = false) (P : RowsS) (G : GlbS) (xs : va_W) (a1 : Int32) (res : Nat) (hk : ¬ res = 0) (h0 : t_X7_requirePoint P G a1 = some res) (sz : Nat) : vx_Met l yX7_requirePoint (ws_ yX7_requirePoint cX7_requirePoint 2 none) rx_X7_requirePoint (PCz z D ca (wC ar ag ca P G ++ xs) sz [.ref (ag 0), .int a1]) QNo (XCw D (wC ar ag ca P G ++ xs) sz (eX res)) 1 6 (AL (wC ar ag ca P G ++ xs) sz) := by
  refine met_x (by decide) (Nat.le_of_ble_eq_true rfl) (fun p e s m args below meth c K hex hZ X hsz ls hl => ?_)
  have K : MC D ca p s m args meth c cX7_requirePoint 2 RX7 := K
  have hx := K.1
  have hb := K.2.1
  have hl : lv_has ls 2 [(0, .ref (ag 0)), (1, .int a1)] := hl
  generalize hQ : vx_MQ below _ _ args s 1 6 _ = Q
  unfold t_X7_requirePoint at h0
  suffices Z : ∀ (H : Heap) (locs : List Loc) (X : RW D (wC ar ag ca P G ++ xs) s.heap H locs), W p l e rx_X7_requirePoint s m args below meth c H locs 0 0 Q (F0 m 0 ls []) from Z _ _ X
  intro H locs X
  have J15 : ∀  (H : Heap) (locs : List Loc) (X : RW D (wC ar ag ca P G ++ xs) s.heap H locs) (ls : Array Slot) (hl : lv_has ls 2 []) (h0 : tb_X7_requirePoint_15 = some res), W p l e rx_X7_requirePoint s m args below meth c H locs 0 0 Q (F0 m 15 ls []) := by
    intro  H locs X ls hl h0
    unfold tb_X7_requirePoint_15 at h0
    cases h0
    subst hQ
    exact z_thrNW (i := 7) K hex hl0 hZ X hsz hl.1 (by decide) ⟨rfl, rfl⟩ q828 q106 dX7_requirePoint_15 dX7_requirePoint_18 dX7_requirePoint_19 dX7_requirePoint_22 dX7_requirePoint_25 ⟨Nat.le_of_ble_eq_true rfl, Nat.le_of_ble_eq_true rfl, Nat.le_of_ble_eq_true rfl, Nat.le_of_ble_eq_true rfl⟩
  refine lv_iload_n hx hb dX7_requirePoint_0 rfl (lv_at hl 1 rfl) ?_
  refine lv_if_lt (tgt := 15) hx hb dX7_requirePoint_1 (by decide) (fun c1 => ?_) (fun c1 => ?_)
  · have h0 := if_t c1 h0
    exact J15  H locs X ls (lv_sub hl [] rfl) h0
  · have h0 := if_f c1 h0
    refine lv_iload_n hx hb dX7_requirePoint_4 rfl (lv_at hl 1 rfl) ?_
    refine lv_aload_n hx hb dX7_requirePoint_5 rfl (lv_at hl 0 rfl) ?_
    refine g_objr K X 0 (by decide) rfl q361 dX7_requirePoint_6 ?_
    refine g_rowi K X (by decide) rfl 0 (by decide) q226 dX7_requirePoint_9 ?_
    refine lv_icmp_lt (tgt := 26) hx hb dX7_requirePoint_12 (by decide) (fun c2 => ?_) (fun c2 => ?_)
    · have h0 := if_t c2 h0
      cases h0
      exact absurd rfl hk
    · have h0 := if_f c2 h0
      exact J15  H locs X ls (lv_sub hl [] rfl) h0
-- X7_pressure
def t_X7_pressure (P : RowsS) (G : GlbS) (a1 : Int32) : Option Nat :=
  ob (t_X7_requirePoint P G a1) fun kq1 =>
  if kq1 = 0 then
    ob (f_X7_requirePoint P G a1) fun x3 =>
    some 0
  else
    some kq1
abbrev rx_X7_pressure : Room := { frames := 7, cells := 1, slots := 6, locals := 104 }
set_option maxRecDepth 100000 in
set_option maxHeartbeats 4000000 in
theorem x_X7_pressure (l : Launch) (D : va_G) (ca : Nat → ClassId) (ar : Nat → Nat → Nat) (ag : Nat → Nat) (z : ZG) (hl0 : l.stackTraces = false) (P : RowsS) (G : GlbS) (xs : va_W) (a1 : Int32) (res : Nat) (hk : ¬ res = 0) (h0 : t_X7_pressure P G a1 = some res) (sz : Nat) : vx_Met l yX7_pressure (ws_ yX7_pressure cX7_pressure 2 (some .int)) rx_X7_pressure (PCz z D ca (wC ar ag ca P G ++ xs) sz [.ref (ag 0), .int a1]) QNo (XCw D (wC ar ag ca P G ++ xs) sz (eX res)) 1 6 (AL (wC ar ag ca P G ++ xs) sz) := by
  refine met_x (by decide) (Nat.le_of_ble_eq_true rfl) (fun p e s m args below meth c K hex hZ X hsz ls hl => ?_)
  have K : MC D ca p s m args meth c cX7_pressure 2 RX7 := K
  have hx := K.1
  have hb := K.2.1
  have hl : lv_has ls 2 [(0, .ref (ag 0)), (1, .int a1)] := hl
  generalize hQ : vx_MQ below _ _ args s 1 6 _ = Q
  unfold t_X7_pressure at h0
  suffices Z : ∀ (H : Heap) (locs : List Loc) (X : RW D (wC ar ag ca P G ++ xs) s.heap H locs), W p l e rx_X7_pressure s m args below meth c H locs 0 0 Q (F0 m 0 ls []) from Z _ _ X
  intro H locs X
  refine lv_aload_n hx hb dX7_pressure_0 rfl (lv_at hl 0 rfl) ?_
  refine lv_iload_n hx hb dX7_pressure_1 rfl (lv_at hl 1 rfl) ?_
  obtain ⟨kq1, ekq1, h0⟩ := ob_out h0
  by_cases c2 : kq1 = 0
  · have h0 := if_t c2 h0
    obtain ⟨x3, ex3, h0⟩ := ob_out h0
    have kx3 := m_X7_requirePoint l D ca ar ag z P G xs a1  ex3 H.size
    refine z_callV K hZ X wC_fstx wC_fstx kx3 hl.1 1 q851 q853 q9 q87 q854 hv_X7_requirePoint ⟨⟨Nat.le_of_ble_eq_true rfl, Nat.le_of_ble_eq_true rfl⟩, rfl, rfl⟩ (z_recvw K X (pl_glb (k := 0) (by decide)) rfl rfl) rfl rfl (Nat.le_of_ble_eq_true rfl) dX7_pressure_2 ⟨Nat.le_of_ble_eq_true rfl, Nat.le_of_ble_eq_true rfl⟩ rfl (fun H locs X => ?_)
    cases h0
    exact absurd rfl hk
  · have h0 := if_f c2 h0
    cases h0
    subst hQ
    have kx := x_X7_requirePoint l D ca ar ag z hl0 P G xs a1 res c2 ekq1 H.size
    exact z_xcallV K hex hZ X wC_fstx hsz kx hl.1 1 q851 q853 q9 q87 q854 hv_X7_requirePoint ⟨⟨Nat.le_of_ble_eq_true rfl, Nat.le_of_ble_eq_true rfl⟩, rfl, rfl⟩ (z_recvw K X (pl_glb (k := 0) (by decide)) rfl rfl) rfl rfl (Nat.le_of_ble_eq_true rfl) dX7_pressure_2 ⟨Nat.le_of_ble_eq_true rfl, Nat.le_of_ble_eq_true rfl⟩
-- X7_requireLeg
def t_X7_requireLeg (a1 : Int32) : Option Nat :=
  if a1 = 0 then
    some 0
  else
    if a1 = 1 then
      some 0
    else
      some 1
abbrev rx_X7_requireLeg : Room := { frames := 6, cells := 1, slots := 6, locals := 83 }
set_option maxRecDepth 100000 in
set_option maxHeartbeats 4000000 in
theorem x_X7_requireLeg (l : Launch) (D : va_G) (ca : Nat → ClassId) (z : ZG) (hl0 : l.stackTraces = false) (ws : va_W) (a1 : Int32) (res : Nat) (hk : ¬ res = 0) (h0 : t_X7_requireLeg a1 = some res) (sz : Nat) : vx_Met l yX7_requireLeg (ws_ yX7_requireLeg cX7_requireLeg 1 none) rx_X7_requireLeg (PCz z D ca (ws) sz [.int a1]) QNo (XCw D (ws) sz (eX res)) 1 6 (AL (ws) sz) := by
  refine met_x (by decide) (Nat.le_of_ble_eq_true rfl) (fun p e s m args below meth c K hex hZ X hsz ls hl => ?_)
  have K : MC D ca p s m args meth c cX7_requireLeg 1 RX7 := K
  have hx := K.1
  have hb := K.2.1
  have hl : lv_has ls 1 [(0, .int a1)] := hl
  generalize hQ : vx_MQ below _ _ args s 1 6 _ = Q
  unfold t_X7_requireLeg at h0
  suffices Z : ∀ (H : Heap) (locs : List Loc) (X : RW D (ws) s.heap H locs), W p l e rx_X7_requireLeg s m args below meth c H locs 0 0 Q (F0 m 0 ls []) from Z _ _ X
  intro H locs X
  refine lv_iload_n hx hb dX7_requireLeg_0 rfl (lv_at hl 0 rfl) ?_
  refine lv_if_eq (tgt := 20) hx hb dX7_requireLeg_1 (by decide) (fun c1 => ?_) (fun c1 => ?_)
  · have h0 := if_t c1 h0
    cases h0
    exact absurd rfl hk
  · have h0 := if_f c1 h0
    refine lv_iload_n hx hb dX7_requireLeg_4 rfl (lv_at hl 0 rfl) ?_
    refine lv_iconst (v := 1) hx hb dX7_requireLeg_5 (by decide) ?_
    refine lv_icmp_eq (tgt := 20) hx hb dX7_requireLeg_6 (by decide) (fun c2 => ?_) (fun c2 => ?_)
    · have h0 := if_t c2 h0
      cases h0
      exact absurd rfl hk
    · have h0 := if_f c2 h0
      cases h0
      subst hQ
      exact z_thrNW (i := 8) K hex hl0 hZ X hsz hl.1 (by decide) ⟨rfl, rfl⟩ q828 q106 dX7_requireLeg_9 dX7_requireLeg_12 dX7_requireLeg_13 dX7_requireLeg_16 dX7_requireLeg_19 ⟨Nat.le_of_ble_eq_true rfl, Nat.le_of_ble_eq_true rfl, Nat.le_of_ble_eq_true rfl, Nat.le_of_ble_eq_true rfl⟩
-- X7_leg
def t_X7_leg (P : RowsS) (G : GlbS) (a1 : Int32) (a2 : Int32) : Option Nat :=
  ob (t_X7_requireLeg a1) fun kq1 =>
  if kq1 = 0 then
    ob (f_X7_requireLeg a1) fun x3 =>
    lt (f_X3_legAt (P 0) a1) fun x4 =>
    lt (x4) fun j5 =>
    if a2 = 0 then
      some 0
    else if a2 = 1 then
      some 0
    else if a2 = 2 then
      some 0
    else if a2 = 3 then
      some 0
    else some 1
  else
    some kq1
abbrev rx_X7_leg : Room := { frames := 7, cells := 1, slots := 6, locals := 103 }
set_option maxRecDepth 100000 in
set_option maxHeartbeats 4000000 in
theorem x_X7_leg (l : Launch) (D : va_G) (ca : Nat → ClassId) (ar : Nat → Nat → Nat) (ag : Nat → Nat) (z : ZG) (hl0 : l.stackTraces = false) (P : RowsS) (G : GlbS) (xs : va_W) (a1 : Int32) (a2 : Int32) (res : Nat) (hk : ¬ res = 0) (h0 : t_X7_leg P G a1 a2 = some res) (sz : Nat) : vx_Met l yX7_leg (ws_ yX7_leg cX7_leg 4 (some .int)) rx_X7_leg (PCz z D ca (wC ar ag ca P G ++ xs) sz [.ref (ag 0), .int a1, .int a2]) QNo (XCw D (wC ar ag ca P G ++ xs) sz (eX res)) 1 6 (AL (wC ar ag ca P G ++ xs) sz) := by
  refine met_x (by decide) (Nat.le_of_ble_eq_true rfl) (fun p e s m args below meth c K hex hZ X hsz ls hl => ?_)
  have K : MC D ca p s m args meth c cX7_leg 4 RX7 := K
  have hx := K.1
  have hb := K.2.1
  have hl : lv_has ls 4 [(0, .ref (ag 0)), (1, .int a1), (2, .int a2)] := hl
  generalize hQ : vx_MQ below _ _ args s 1 6 _ = Q
  unfold t_X7_leg at h0
  suffices Z : ∀ (H : Heap) (locs : List Loc) (X : RW D (wC ar ag ca P G ++ xs) s.heap H locs), W p l e rx_X7_leg s m args below meth c H locs 0 0 Q (F0 m 0 ls []) from Z _ _ X
  intro H locs X
  refine lv_iload_n hx hb dX7_leg_0 rfl (lv_at hl 1 rfl) ?_
  obtain ⟨kq1, ekq1, h0⟩ := ob_out h0
  by_cases c2 : kq1 = 0
  · have h0 := if_t c2 h0
    obtain ⟨x3, ex3, h0⟩ := ob_out h0
    have kx3 := m_X7_requireLeg l D ca z (wC ar ag ca P G ++ xs) a1  ex3 H.size
    refine z_callS K hZ X wC_fstx wC_fstx kx3 hl.1 1 q864 q865 q87 q866 hs_X7_requireLeg ⟨⟨Nat.le_of_ble_eq_true rfl, Nat.le_of_ble_eq_true rfl⟩, rfl, rfl⟩ rfl rfl (Nat.le_of_ble_eq_true rfl) dX7_leg_1 ⟨Nat.le_of_ble_eq_true rfl, Nat.le_of_ble_eq_true rfl⟩ rfl (fun H locs X => ?_)
    refine lv_aload_n hx hb dX7_leg_4 rfl (lv_at hl 0 rfl) ?_
    refine g_objr K X 0 (by decide) rfl q361 dX7_leg_5 ?_
    refine lv_iload_n hx hb dX7_leg_8 rfl (lv_at hl 1 rfl) ?_
    obtain ⟨x4, ex4, h0⟩ := lt_out h0
    have kx4 := mC_X3_legAt l D ca ar ag P 0 G xs (by decide) a1 x4 ex4.symm H.size
    refine w_callV0 K X wC_fstx kx4 hl.1 1 q868 q416 q417 q88 q418 hv_X3_legAt ⟨⟨Nat.le_of_ble_eq_true rfl, Nat.le_of_ble_eq_true rfl⟩, rfl, rfl⟩ (pl_rowo (by decide)) rfl rfl rfl rfl (Nat.le_of_ble_eq_true rfl) dX7_leg_9 ⟨Nat.le_of_ble_eq_true rfl, Nat.le_of_ble_eq_true rfl⟩ rfl (fun H locs X => ?_)
    obtain ⟨j5, ej5, h0⟩ := lt_out h0
    rw [← ej5]
    have hj5 : j5 < 2 := by rw [ej5]; exact lt_X3_legAt ex4
    refine lv_astore_n (lv' := [(3, .ref (ar 0 (j5 + 2))), (0, .ref (ag 0)), (1, .int a1), (2, .int a2)]) hx hb dX7_leg_12 rfl hl (by decide) rfl (fun ls hl => ?_)
    refine lv_iload_n hx hb dX7_leg_13 rfl (lv_at hl 3 rfl) ?_
    by_cases c6 : a2 = 0
    · have h0 := if_t c6 h0
      refine lv_tableIn (off := 30) (tgt := 44) hx hb dX7_leg_14 (by rw [c6]; decide) (by rw [c6]; decide) (by rw [c6]; decide) (by decide) ?_
      cases h0
      exact absurd rfl hk
    have h0 := if_f c6 h0
    by_cases c7 : a2 = 1
    · have h0 := if_t c7 h0
      refine lv_tableIn (off := 35) (tgt := 49) hx hb dX7_leg_14 (by rw [c7]; decide) (by rw [c7]; decide) (by rw [c7]; decide) (by decide) ?_
      cases h0
      exact absurd rfl hk
    have h0 := if_f c7 h0
    by_cases c8 : a2 = 2
    · have h0 := if_t c8 h0
      refine lv_tableIn (off := 40) (tgt := 54) hx hb dX7_leg_14 (by rw [c8]; decide) (by rw [c8]; decide) (by rw [c8]; decide) (by decide) ?_
      cases h0
      exact absurd rfl hk
    have h0 := if_f c8 h0
    by_cases c9 : a2 = 3
    · have h0 := if_t c9 h0
      refine lv_tableIn (off := 45) (tgt := 59) hx hb dX7_leg_14 (by rw [c9]; decide) (by rw [c9]; decide) (by rw [c9]; decide) (by decide) ?_
      cases h0
      exact absurd rfl hk
    have h0 := if_f c9 h0
    refine lv_tableOut (tgt := 65) hx hb dX7_leg_14 (by have gc6 := lv_neT (a := 0) c6 (by decide); have gc7 := lv_neT (a := 1) c7 (by decide); have gc8 := lv_neT (a := 2) c8 (by decide); have gc9 := lv_neT (a := 3) c9 (by decide); omega) (by decide) ?_
    cases h0
    subst hQ
    exact z_thrN (i := 9) K hex hl0 hZ X hsz hl.1 (by decide) ⟨rfl, rfl⟩ q828 q106 dX7_leg_65 dX7_leg_68 dX7_leg_69 dX7_leg_71 dX7_leg_74 ⟨Nat.le_of_ble_eq_true rfl, Nat.le_of_ble_eq_true rfl, Nat.le_of_ble_eq_true rfl, Nat.le_of_ble_eq_true rfl⟩
  · have h0 := if_f c2 h0
    cases h0
    subst hQ
    have kx := x_X7_requireLeg l D ca z hl0 (wC ar ag ca P G ++ xs) a1 res c2 ekq1 H.size
    exact z_xcallS K hex hZ X wC_fstx hsz kx hl.1 1 q864 q865 q87 q866 hs_X7_requireLeg ⟨⟨Nat.le_of_ble_eq_true rfl, Nat.le_of_ble_eq_true rfl⟩, rfl, rfl⟩ rfl rfl (Nat.le_of_ble_eq_true rfl) dX7_leg_1 ⟨Nat.le_of_ble_eq_true rfl, Nat.le_of_ble_eq_true rfl⟩
-- X7_account
def t_X7_account (n : Nat) (P : RowsS) (G : GlbS) (a1 : Int32) (a2 : Int32) : Option Nat :=
  ob (t_X7_requireLeg a1) fun kq1 =>
  if kq1 = 0 then
    ob (f_X7_requireLeg a1) fun x3 =>
    lt (f_X3_legAt (P 0) a1) fun x4 =>
    lt (x4) fun j5 =>
    ob (f_X3_volumesAt n (P 0) a1 ((P 0).2 (j5 + 2) 6)) fun x6 =>
    if a2 = 0 then
      some 0
    else if a2 = 1 then
      some 0
    else if a2 = 2 then
      some 0
    else if a2 = 3 then
      some 0
    else if a2 = 4 then
      some 0
    else some 1
  else
    some kq1
abbrev rx_X7_account : Room := { frames := 7, cells := 1, slots := 6, locals := 103 }
set_option maxRecDepth 100000 in
set_option maxHeartbeats 4000000 in
theorem x_X7_account (l : Launch) (D : va_G) (ca : Nat → ClassId) (ar : Nat → Nat → Nat) (ag : Nat → Nat) (z : ZG) (hl0 : l.stackTraces = false) (n : Nat) (P : RowsS) (G : GlbS) (xs : va_W) (a1 : Int32) (a2 : Int32) (res : Nat) (hk : ¬ res = 0) (h0 : t_X7_account n P G a1 a2 = some res) (sz : Nat) : vx_Met l yX7_account (ws_ yX7_account cX7_account 6 (some .long)) rx_X7_account (PCz z D ca (wC ar ag ca P G ++ xs) sz [.ref (ag 0), .int a1, .int a2]) QNo (XCw D (wC ar ag ca P G ++ xs) sz (eX res)) 1 6 (AL (wC ar ag ca P G ++ xs) sz) := by
  refine met_x (by decide) (Nat.le_of_ble_eq_true rfl) (fun p e s m args below meth c K hex hZ X hsz ls hl => ?_)
  have K : MC D ca p s m args meth c cX7_account 6 RX7 := K
  have hx := K.1
  have hb := K.2.1
  have hl : lv_has ls 6 [(0, .ref (ag 0)), (1, .int a1), (2, .int a2)] := hl
  generalize hQ : vx_MQ below _ _ args s 1 6 _ = Q
  unfold t_X7_account at h0
  suffices Z : ∀ (H : Heap) (locs : List Loc) (X : RW D (wC ar ag ca P G ++ xs) s.heap H locs), W p l e rx_X7_account s m args below meth c H locs 0 0 Q (F0 m 0 ls []) from Z _ _ X
  intro H locs X
  refine lv_iload_n hx hb dX7_account_0 rfl (lv_at hl 1 rfl) ?_
  obtain ⟨kq1, ekq1, h0⟩ := ob_out h0
  by_cases c2 : kq1 = 0
  · have h0 := if_t c2 h0
    obtain ⟨x3, ex3, h0⟩ := ob_out h0
    have kx3 := m_X7_requireLeg l D ca z (wC ar ag ca P G ++ xs) a1  ex3 H.size
    refine z_callS K hZ X wC_fstx wC_fstx kx3 hl.1 1 q864 q865 q87 q866 hs_X7_requireLeg ⟨⟨Nat.le_of_ble_eq_true rfl, Nat.le_of_ble_eq_true rfl⟩, rfl, rfl⟩ rfl rfl (Nat.le_of_ble_eq_true rfl) dX7_account_1 ⟨Nat.le_of_ble_eq_true rfl, Nat.le_of_ble_eq_true rfl⟩ rfl (fun H locs X => ?_)
    refine lv_aload_n hx hb dX7_account_4 rfl (lv_at hl 0 rfl) ?_
    refine g_objr K X 0 (by decide) rfl q361 dX7_account_5 ?_
    refine lv_iload_n hx hb dX7_account_8 rfl (lv_at hl 1 rfl) ?_
    obtain ⟨x4, ex4, h0⟩ := lt_out h0
    have kx4 := mC_X3_legAt l D ca ar ag P 0 G xs (by decide) a1 x4 ex4.symm H.size
    refine w_callV0 K X wC_fstx kx4 hl.1 1 q868 q416 q417 q88 q418 hv_X3_legAt ⟨⟨Nat.le_of_ble_eq_true rfl, Nat.le_of_ble_eq_true rfl⟩, rfl, rfl⟩ (pl_rowo (by decide)) rfl rfl rfl rfl (Nat.le_of_ble_eq_true rfl) dX7_account_9 ⟨Nat.le_of_ble_eq_true rfl, Nat.le_of_ble_eq_true rfl⟩ rfl (fun H locs X => ?_)
    obtain ⟨j5, ej5, h0⟩ := lt_out h0
    rw [← ej5]
    have hj5 : j5 < 2 := by rw [ej5]; exact lt_X3_legAt ex4
    refine lv_astore_n (lv' := [(3, .ref (ar 0 (j5 + 2))), (0, .ref (ag 0)), (1, .int a1), (2, .int a2)]) hx hb dX7_account_12 rfl hl (by decide) rfl (fun ls hl => ?_)
    refine lv_aload_n hx hb dX7_account_13 rfl (lv_at hl 1 rfl) ?_
    refine g_objr K X 0 (by decide) rfl q361 dX7_account_14 ?_
    refine lv_iload_n hx hb dX7_account_17 rfl (lv_at hl 2 rfl) ?_
    refine lv_aload_n hx hb dX7_account_18 rfl (lv_at hl 0 rfl) ?_
    refine g_legl K X (by decide) hj5 rfl 6 (by decide) q151 dX7_account_19 ?_
    obtain ⟨x6, ex6, h0⟩ := ob_out h0
    have kx6 := mC_X3_volumesAt l D ca ar ag n P 0 G xs (by decide) a1 ((P 0).2 (j5 + 2) 6) x6 ex6 H.size
    refine w_callV0 K X wC_fstx kx6 hl.1 2 q877 q792 q793 q88 q794 hv_X3_volumesAt ⟨⟨Nat.le_of_ble_eq_true rfl, Nat.le_of_ble_eq_true rfl⟩, rfl, rfl⟩ (pl_rowo (by decide)) rfl rfl rfl rfl (Nat.le_of_ble_eq_true rfl) dX7_account_22 ⟨Nat.le_of_ble_eq_true rfl, Nat.le_of_ble_eq_true rfl⟩ rfl (fun H locs X => ?_)
    refine lv_lstore (lv' := [(4, .long x6), (3, .ref (ar 0 (j5 + 2))), (0, .ref (ag 0)), (1, .int a1), (2, .int a2)]) hx hb dX7_account_25 hl (by decide) rfl (fun ls hl => ?_)
    refine lv_iload_n hx hb dX7_account_27 rfl (lv_at hl 4 rfl) ?_
    by_cases c7 : a2 = 0
    · have h0 := if_t c7 h0
      refine lv_tableIn (off := 36) (tgt := 64) hx hb dX7_account_28 (by rw [c7]; decide) (by rw [c7]; decide) (by rw [c7]; decide) (by decide) ?_
      cases h0
      exact absurd rfl hk
    have h0 := if_f c7 h0
    by_cases c8 : a2 = 1
    · have h0 := if_t c8 h0
      refine lv_tableIn (off := 41) (tgt := 69) hx hb dX7_account_28 (by rw [c8]; decide) (by rw [c8]; decide) (by rw [c8]; decide) (by decide) ?_
      cases h0
      exact absurd rfl hk
    have h0 := if_f c8 h0
    by_cases c9 : a2 = 2
    · have h0 := if_t c9 h0
      refine lv_tableIn (off := 44) (tgt := 72) hx hb dX7_account_28 (by rw [c9]; decide) (by rw [c9]; decide) (by rw [c9]; decide) (by decide) ?_
      cases h0
      exact absurd rfl hk
    have h0 := if_f c9 h0
    by_cases c10 : a2 = 3
    · have h0 := if_t c10 h0
      refine lv_tableIn (off := 49) (tgt := 77) hx hb dX7_account_28 (by rw [c10]; decide) (by rw [c10]; decide) (by rw [c10]; decide) (by decide) ?_
      cases h0
      exact absurd rfl hk
    have h0 := if_f c10 h0
    by_cases c11 : a2 = 4
    · have h0 := if_t c11 h0
      refine lv_tableIn (off := 54) (tgt := 82) hx hb dX7_account_28 (by rw [c11]; decide) (by rw [c11]; decide) (by rw [c11]; decide) (by decide) ?_
      cases h0
      exact absurd rfl hk
    have h0 := if_f c11 h0
    refine lv_tableOut (tgt := 101) hx hb dX7_account_28 (by have gc7 := lv_neT (a := 0) c7 (by decide); have gc8 := lv_neT (a := 1) c8 (by decide); have gc9 := lv_neT (a := 2) c9 (by decide); have gc10 := lv_neT (a := 3) c10 (by decide); have gc11 := lv_neT (a := 4) c11 (by decide); omega) (by decide) ?_
    cases h0
    subst hQ
    exact z_thrN (i := 10) K hex hl0 hZ X hsz hl.1 (by decide) ⟨rfl, rfl⟩ q828 q106 dX7_account_101 dX7_account_104 dX7_account_105 dX7_account_107 dX7_account_110 ⟨Nat.le_of_ble_eq_true rfl, Nat.le_of_ble_eq_true rfl, Nat.le_of_ble_eq_true rfl, Nat.le_of_ble_eq_true rfl⟩
  · have h0 := if_f c2 h0
    cases h0
    subst hQ
    have kx := x_X7_requireLeg l D ca z hl0 (wC ar ag ca P G ++ xs) a1 res c2 ekq1 H.size
    exact z_xcallS K hex hZ X wC_fstx hsz kx hl.1 1 q864 q865 q87 q866 hs_X7_requireLeg ⟨⟨Nat.le_of_ble_eq_true rfl, Nat.le_of_ble_eq_true rfl⟩, rfl, rfl⟩ rfl rfl (Nat.le_of_ble_eq_true rfl) dX7_account_1 ⟨Nat.le_of_ble_eq_true rfl, Nat.le_of_ble_eq_true rfl⟩
-- X7_requireTube
def tb_X7_requireTube_15   : Option Nat :=
  some 1
def t_X7_requireTube (P : RowsS) (G : GlbS) (a1 : Int32) : Option Nat :=
  if a1 < 0 then
    tb_X7_requireTube_15
  else
    if a1 < ((P 0).1 0 2) then
      some 0
    else
      tb_X7_requireTube_15
abbrev rx_X7_requireTube : Room := { frames := 6, cells := 1, slots := 6, locals := 83 }
set_option maxRecDepth 100000 in
set_option maxHeartbeats 4000000 in
theorem x_X7_requireTube (l : Launch) (D : va_G) (ca : Nat → ClassId) (ar : Nat → Nat → Nat) (ag : Nat → Nat) (z : ZG) (hl0 : l.stackTraces = false) (P : RowsS) (G : GlbS) (xs : va_W) (a1 : Int32) (res : Nat) (hk : ¬ res = 0) (h0 : t_X7_requireTube P G a1 = some res) (sz : Nat) : vx_Met l yX7_requireTube (ws_ yX7_requireTube cX7_requireTube 2 none) rx_X7_requireTube (PCz z D ca (wC ar ag ca P G ++ xs) sz [.ref (ag 0), .int a1]) QNo (XCw D (wC ar ag ca P G ++ xs) sz (eX res)) 1 6 (AL (wC ar ag ca P G ++ xs) sz) := by
  refine met_x (by decide) (Nat.le_of_ble_eq_true rfl) (fun p e s m args below meth c K hex hZ X hsz ls hl => ?_)
  have K : MC D ca p s m args meth c cX7_requireTube 2 RX7 := K
  have hx := K.1
  have hb := K.2.1
  have hl : lv_has ls 2 [(0, .ref (ag 0)), (1, .int a1)] := hl
  generalize hQ : vx_MQ below _ _ args s 1 6 _ = Q
  unfold t_X7_requireTube at h0
  suffices Z : ∀ (H : Heap) (locs : List Loc) (X : RW D (wC ar ag ca P G ++ xs) s.heap H locs), W p l e rx_X7_requireTube s m args below meth c H locs 0 0 Q (F0 m 0 ls []) from Z _ _ X
  intro H locs X
  have J15 : ∀  (H : Heap) (locs : List Loc) (X : RW D (wC ar ag ca P G ++ xs) s.heap H locs) (ls : Array Slot) (hl : lv_has ls 2 []) (h0 : tb_X7_requireTube_15 = some res), W p l e rx_X7_requireTube s m args below meth c H locs 0 0 Q (F0 m 15 ls []) := by
    intro  H locs X ls hl h0
    unfold tb_X7_requireTube_15 at h0
    cases h0
    subst hQ
    exact z_thrNW (i := 11) K hex hl0 hZ X hsz hl.1 (by decide) ⟨rfl, rfl⟩ q828 q106 dX7_requireTube_15 dX7_requireTube_18 dX7_requireTube_19 dX7_requireTube_22 dX7_requireTube_25 ⟨Nat.le_of_ble_eq_true rfl, Nat.le_of_ble_eq_true rfl, Nat.le_of_ble_eq_true rfl, Nat.le_of_ble_eq_true rfl⟩
  refine lv_iload_n hx hb dX7_requireTube_0 rfl (lv_at hl 1 rfl) ?_
  refine lv_if_lt (tgt := 15) hx hb dX7_requireTube_1 (by decide) (fun c1 => ?_) (fun c1 => ?_)
  · have h0 := if_t c1 h0
    exact J15  H locs X ls (lv_sub hl [] rfl) h0
  · have h0 := if_f c1 h0
    refine lv_iload_n hx hb dX7_requireTube_4 rfl (lv_at hl 1 rfl) ?_
    refine lv_aload_n hx hb dX7_requireTube_5 rfl (lv_at hl 0 rfl) ?_
    refine g_objr K X 0 (by decide) rfl q361 dX7_requireTube_6 ?_
    refine g_rowi K X (by decide) rfl 2 (by decide) q231 dX7_requireTube_9 ?_
    refine lv_icmp_lt (tgt := 26) hx hb dX7_requireTube_12 (by decide) (fun c2 => ?_) (fun c2 => ?_)
    · have h0 := if_t c2 h0
      cases h0
      exact absurd rfl hk
    · have h0 := if_f c2 h0
      exact J15  H locs X ls (lv_sub hl [] rfl) h0
-- X7_tube
def tb_X7_tube_15   : Option Nat :=
  some 1
def t_X7_tube (P : RowsS) (G : GlbS) (a1 : Int32) (a2 : Int32) : Option Nat :=
  ob (t_X7_requireTube P G a1) fun kq1 =>
  if kq1 = 0 then
    ob (f_X7_requireTube P G a1) fun x3 =>
    if a2 < 0 then
      tb_X7_tube_15
    else
      if a2 ≤ 10 then
        some 0
      else
        tb_X7_tube_15
  else
    some kq1
abbrev rx_X7_tube : Room := { frames := 7, cells := 1, slots := 6, locals := 104 }
set_option maxRecDepth 100000 in
set_option maxHeartbeats 4000000 in
theorem x_X7_tube (l : Launch) (D : va_G) (ca : Nat → ClassId) (ar : Nat → Nat → Nat) (ag : Nat → Nat) (z : ZG) (hl0 : l.stackTraces = false) (P : RowsS) (G : GlbS) (xs : va_W) (a1 : Int32) (a2 : Int32) (res : Nat) (hk : ¬ res = 0) (h0 : t_X7_tube P G a1 a2 = some res) (sz : Nat) : vx_Met l yX7_tube (ws_ yX7_tube cX7_tube 3 (some .int)) rx_X7_tube (PCz z D ca (wC ar ag ca P G ++ xs) sz [.ref (ag 0), .int a1, .int a2]) QNo (XCw D (wC ar ag ca P G ++ xs) sz (eX res)) 1 6 (AL (wC ar ag ca P G ++ xs) sz) := by
  refine met_x (by decide) (Nat.le_of_ble_eq_true rfl) (fun p e s m args below meth c K hex hZ X hsz ls hl => ?_)
  have K : MC D ca p s m args meth c cX7_tube 3 RX7 := K
  have hx := K.1
  have hb := K.2.1
  have hl : lv_has ls 3 [(0, .ref (ag 0)), (1, .int a1), (2, .int a2)] := hl
  generalize hQ : vx_MQ below _ _ args s 1 6 _ = Q
  unfold t_X7_tube at h0
  suffices Z : ∀ (H : Heap) (locs : List Loc) (X : RW D (wC ar ag ca P G ++ xs) s.heap H locs), W p l e rx_X7_tube s m args below meth c H locs 0 0 Q (F0 m 0 ls []) from Z _ _ X
  intro H locs X
  have J15 : ∀  (H : Heap) (locs : List Loc) (X : RW D (wC ar ag ca P G ++ xs) s.heap H locs) (ls : Array Slot) (hl : lv_has ls 3 []) (h0 : tb_X7_tube_15 = some res), W p l e rx_X7_tube s m args below meth c H locs 0 0 Q (F0 m 15 ls []) := by
    intro  H locs X ls hl h0
    unfold tb_X7_tube_15 at h0
    cases h0
    subst hQ
    exact z_thrN (i := 12) K hex hl0 hZ X hsz hl.1 (by decide) ⟨rfl, rfl⟩ q828 q106 dX7_tube_15 dX7_tube_18 dX7_tube_19 dX7_tube_21 dX7_tube_24 ⟨Nat.le_of_ble_eq_true rfl, Nat.le_of_ble_eq_true rfl, Nat.le_of_ble_eq_true rfl, Nat.le_of_ble_eq_true rfl⟩
  refine lv_aload_n hx hb dX7_tube_0 rfl (lv_at hl 0 rfl) ?_
  refine lv_iload_n hx hb dX7_tube_1 rfl (lv_at hl 1 rfl) ?_
  obtain ⟨kq1, ekq1, h0⟩ := ob_out h0
  by_cases c2 : kq1 = 0
  · have h0 := if_t c2 h0
    obtain ⟨x3, ex3, h0⟩ := ob_out h0
    have kx3 := m_X7_requireTube l D ca ar ag z P G xs a1  ex3 H.size
    refine z_callV K hZ X wC_fstx wC_fstx kx3 hl.1 1 q886 q888 q10 q87 q889 hv_X7_requireTube ⟨⟨Nat.le_of_ble_eq_true rfl, Nat.le_of_ble_eq_true rfl⟩, rfl, rfl⟩ (z_recvw K X (pl_glb (k := 0) (by decide)) rfl rfl) rfl rfl (Nat.le_of_ble_eq_true rfl) dX7_tube_2 ⟨Nat.le_of_ble_eq_true rfl, Nat.le_of_ble_eq_true rfl⟩ rfl (fun H locs X => ?_)
    refine lv_iload_n hx hb dX7_tube_5 rfl (lv_at hl 2 rfl) ?_
    refine lv_if_lt (tgt := 15) hx hb dX7_tube_6 (by decide) (fun c4 => ?_) (fun c4 => ?_)
    · have h0 := if_t c4 h0
      exact J15  H locs X ls (lv_sub hl [] rfl) h0
    · have h0 := if_f c4 h0
      refine lv_iload_n hx hb dX7_tube_9 rfl (lv_at hl 2 rfl) ?_
      refine lv_bipush (v := 10) hx hb dX7_tube_10 (by decide) ?_
      refine lv_icmp_le (tgt := 25) hx hb dX7_tube_12 (by decide) (fun c5 => ?_) (fun c5 => ?_)
      · have h0 := if_t c5 h0
        cases h0
        exact absurd rfl hk
      · have h0 := if_f c5 h0
        exact J15  H locs X ls (lv_sub hl [] rfl) h0
  · have h0 := if_f c2 h0
    cases h0
    subst hQ
    have kx := x_X7_requireTube l D ca ar ag z hl0 P G xs a1 res c2 ekq1 H.size
    exact z_xcallV K hex hZ X wC_fstx hsz kx hl.1 1 q886 q888 q10 q87 q889 hv_X7_requireTube ⟨⟨Nat.le_of_ble_eq_true rfl, Nat.le_of_ble_eq_true rfl⟩, rfl, rfl⟩ (z_recvw K X (pl_glb (k := 0) (by decide)) rfl rfl) rfl rfl (Nat.le_of_ble_eq_true rfl) dX7_tube_2 ⟨Nat.le_of_ble_eq_true rfl, Nat.le_of_ble_eq_true rfl⟩
-- X7_told
def t_X7_told (P : RowsS) (G : GlbS) (a1 : Int32) : Option Nat :=
  ob (t_X7_requireTube P G a1) fun kq1 =>
  if kq1 = 0 then
    ob (f_X7_requireTube P G a1) fun x3 =>
    some 0
  else
    some kq1
abbrev rx_X7_told : Room := { frames := 7, cells := 1, slots := 6, locals := 104 }
set_option maxRecDepth 100000 in
set_option maxHeartbeats 4000000 in
theorem x_X7_told (l : Launch) (D : va_G) (ca : Nat → ClassId) (ar : Nat → Nat → Nat) (ag : Nat → Nat) (z : ZG) (hl0 : l.stackTraces = false) (P : RowsS) (G : GlbS) (xs : va_W) (a1 : Int32) (res : Nat) (hk : ¬ res = 0) (h0 : t_X7_told P G a1 = some res) (sz : Nat) : vx_Met l yX7_told (ws_ yX7_told cX7_told 3 (some .int)) rx_X7_told (PCz z D ca (wC ar ag ca P G ++ xs) sz [.ref (ag 0), .int a1]) QNo (XCw D (wC ar ag ca P G ++ xs) sz (eX res)) 1 6 (AL (wC ar ag ca P G ++ xs) sz) := by
  refine met_x (by decide) (Nat.le_of_ble_eq_true rfl) (fun p e s m args below meth c K hex hZ X hsz ls hl => ?_)
  have K : MC D ca p s m args meth c cX7_told 3 RX7 := K
  have hx := K.1
  have hb := K.2.1
  have hl : lv_has ls 3 [(0, .ref (ag 0)), (1, .int a1)] := hl
  generalize hQ : vx_MQ below _ _ args s 1 6 _ = Q
  unfold t_X7_told at h0
  suffices Z : ∀ (H : Heap) (locs : List Loc) (X : RW D (wC ar ag ca P G ++ xs) s.heap H locs), W p l e rx_X7_told s m args below meth c H locs 0 0 Q (F0 m 0 ls []) from Z _ _ X
  intro H locs X
  refine lv_aload_n hx hb dX7_told_0 rfl (lv_at hl 0 rfl) ?_
  refine lv_iload_n hx hb dX7_told_1 rfl (lv_at hl 1 rfl) ?_
  obtain ⟨kq1, ekq1, h0⟩ := ob_out h0
  by_cases c2 : kq1 = 0
  · have h0 := if_t c2 h0
    obtain ⟨x3, ex3, h0⟩ := ob_out h0
    have kx3 := m_X7_requireTube l D ca ar ag z P G xs a1  ex3 H.size
    refine z_callV K hZ X wC_fstx wC_fstx kx3 hl.1 1 q886 q888 q10 q87 q889 hv_X7_requireTube ⟨⟨Nat.le_of_ble_eq_true rfl, Nat.le_of_ble_eq_true rfl⟩, rfl, rfl⟩ (z_recvw K X (pl_glb (k := 0) (by decide)) rfl rfl) rfl rfl (Nat.le_of_ble_eq_true rfl) dX7_told_2 ⟨Nat.le_of_ble_eq_true rfl, Nat.le_of_ble_eq_true rfl⟩ rfl (fun H locs X => ?_)
    cases h0
    exact absurd rfl hk
  · have h0 := if_f c2 h0
    cases h0
    subst hQ
    have kx := x_X7_requireTube l D ca ar ag z hl0 P G xs a1 res c2 ekq1 H.size
    exact z_xcallV K hex hZ X wC_fstx hsz kx hl.1 1 q886 q888 q10 q87 q889 hv_X7_requireTube ⟨⟨Nat.le_of_ble_eq_true rfl, Nat.le_of_ble_eq_true rfl⟩, rfl, rfl⟩ (z_recvw K X (pl_glb (k := 0) (by decide)) rfl rfl) rfl rfl (Nat.le_of_ble_eq_true rfl) dX7_told_2 ⟨Nat.le_of_ble_eq_true rfl, Nat.le_of_ble_eq_true rfl⟩
-- X7_off
def t_X7_off (P : RowsS) (G : GlbS) (a1 : Int32) : Option Nat :=
  ob (t_X7_requireTube P G a1) fun kq1 =>
  if kq1 = 0 then
    ob (f_X7_requireTube P G a1) fun x3 =>
    some 0
  else
    some kq1
abbrev rx_X7_off : Room := { frames := 7, cells := 1, slots := 6, locals := 104 }
set_option maxRecDepth 100000 in
set_option maxHeartbeats 4000000 in
theorem x_X7_off (l : Launch) (D : va_G) (ca : Nat → ClassId) (ar : Nat → Nat → Nat) (ag : Nat → Nat) (z : ZG) (hl0 : l.stackTraces = false) (P : RowsS) (G : GlbS) (xs : va_W) (a1 : Int32) (res : Nat) (hk : ¬ res = 0) (h0 : t_X7_off P G a1 = some res) (sz : Nat) : vx_Met l yX7_off (ws_ yX7_off cX7_off 3 (some .int)) rx_X7_off (PCz z D ca (wC ar ag ca P G ++ xs) sz [.ref (ag 0), .int a1]) QNo (XCw D (wC ar ag ca P G ++ xs) sz (eX res)) 1 6 (AL (wC ar ag ca P G ++ xs) sz) := by
  refine met_x (by decide) (Nat.le_of_ble_eq_true rfl) (fun p e s m args below meth c K hex hZ X hsz ls hl => ?_)
  have K : MC D ca p s m args meth c cX7_off 3 RX7 := K
  have hx := K.1
  have hb := K.2.1
  have hl : lv_has ls 3 [(0, .ref (ag 0)), (1, .int a1)] := hl
  generalize hQ : vx_MQ below _ _ args s 1 6 _ = Q
  unfold t_X7_off at h0
  suffices Z : ∀ (H : Heap) (locs : List Loc) (X : RW D (wC ar ag ca P G ++ xs) s.heap H locs), W p l e rx_X7_off s m args below meth c H locs 0 0 Q (F0 m 0 ls []) from Z _ _ X
  intro H locs X
  refine lv_aload_n hx hb dX7_off_0 rfl (lv_at hl 0 rfl) ?_
  refine lv_iload_n hx hb dX7_off_1 rfl (lv_at hl 1 rfl) ?_
  obtain ⟨kq1, ekq1, h0⟩ := ob_out h0
  by_cases c2 : kq1 = 0
  · have h0 := if_t c2 h0
    obtain ⟨x3, ex3, h0⟩ := ob_out h0
    have kx3 := m_X7_requireTube l D ca ar ag z P G xs a1  ex3 H.size
    refine z_callV K hZ X wC_fstx wC_fstx kx3 hl.1 1 q886 q888 q10 q87 q889 hv_X7_requireTube ⟨⟨Nat.le_of_ble_eq_true rfl, Nat.le_of_ble_eq_true rfl⟩, rfl, rfl⟩ (z_recvw K X (pl_glb (k := 0) (by decide)) rfl rfl) rfl rfl (Nat.le_of_ble_eq_true rfl) dX7_off_2 ⟨Nat.le_of_ble_eq_true rfl, Nat.le_of_ble_eq_true rfl⟩ rfl (fun H locs X => ?_)
    cases h0
    exact absurd rfl hk
  · have h0 := if_f c2 h0
    cases h0
    subst hQ
    have kx := x_X7_requireTube l D ca ar ag z hl0 P G xs a1 res c2 ekq1 H.size
    exact z_xcallV K hex hZ X wC_fstx hsz kx hl.1 1 q886 q888 q10 q87 q889 hv_X7_requireTube ⟨⟨Nat.le_of_ble_eq_true rfl, Nat.le_of_ble_eq_true rfl⟩, rfl, rfl⟩ (z_recvw K X (pl_glb (k := 0) (by decide)) rfl rfl) rfl rfl (Nat.le_of_ble_eq_true rfl) dX7_off_2 ⟨Nat.le_of_ble_eq_true rfl, Nat.le_of_ble_eq_true rfl⟩
-- X7_difference
def t_X7_difference (P : RowsS) (G : GlbS) (a1 : Int32) (a2 : Int32) : Option Nat :=
  ob (t_X7_requireTube P G a1) fun kq1 =>
  if kq1 = 0 then
    ob (f_X7_requireTube P G a1) fun x3 =>
    ob (t_X7_requireTube P G a2) fun kq4 =>
    if kq4 = 0 then
      ob (f_X7_requireTube P G a2) fun x6 =>
      some 0
    else
      some kq4
  else
    some kq1
abbrev rx_X7_difference : Room := { frames := 7, cells := 1, slots := 6, locals := 104 }
set_option maxRecDepth 100000 in
set_option maxHeartbeats 4000000 in
theorem x_X7_difference (l : Launch) (D : va_G) (ca : Nat → ClassId) (ar : Nat → Nat → Nat) (ag : Nat → Nat) (z : ZG) (hl0 : l.stackTraces = false) (P : RowsS) (G : GlbS) (xs : va_W) (a1 : Int32) (a2 : Int32) (res : Nat) (hk : ¬ res = 0) (h0 : t_X7_difference P G a1 a2 = some res) (sz : Nat) : vx_Met l yX7_difference (ws_ yX7_difference cX7_difference 5 (some .int)) rx_X7_difference (PCz z D ca (wC ar ag ca P G ++ xs) sz [.ref (ag 0), .int a1, .int a2]) QNo (XCw D (wC ar ag ca P G ++ xs) sz (eX res)) 1 6 (AL (wC ar ag ca P G ++ xs) sz) := by
  refine met_x (by decide) (Nat.le_of_ble_eq_true rfl) (fun p e s m args below meth c K hex hZ X hsz ls hl => ?_)
  have K : MC D ca p s m args meth c cX7_difference 5 RX7 := K
  have hx := K.1
  have hb := K.2.1
  have hl : lv_has ls 5 [(0, .ref (ag 0)), (1, .int a1), (2, .int a2)] := hl
  generalize hQ : vx_MQ below _ _ args s 1 6 _ = Q
  unfold t_X7_difference at h0
  suffices Z : ∀ (H : Heap) (locs : List Loc) (X : RW D (wC ar ag ca P G ++ xs) s.heap H locs), W p l e rx_X7_difference s m args below meth c H locs 0 0 Q (F0 m 0 ls []) from Z _ _ X
  intro H locs X
  refine lv_aload_n hx hb dX7_difference_0 rfl (lv_at hl 0 rfl) ?_
  refine lv_iload_n hx hb dX7_difference_1 rfl (lv_at hl 1 rfl) ?_
  obtain ⟨kq1, ekq1, h0⟩ := ob_out h0
  by_cases c2 : kq1 = 0
  · have h0 := if_t c2 h0
    obtain ⟨x3, ex3, h0⟩ := ob_out h0
    have kx3 := m_X7_requireTube l D ca ar ag z P G xs a1  ex3 H.size
    refine z_callV K hZ X wC_fstx wC_fstx kx3 hl.1 1 q886 q888 q10 q87 q889 hv_X7_requireTube ⟨⟨Nat.le_of_ble_eq_true rfl, Nat.le_of_ble_eq_true rfl⟩, rfl, rfl⟩ (z_recvw K X (pl_glb (k := 0) (by decide)) rfl rfl) rfl rfl (Nat.le_of_ble_eq_true rfl) dX7_difference_2 ⟨Nat.le_of_ble_eq_true rfl, Nat.le_of_ble_eq_true rfl⟩ rfl (fun H locs X => ?_)
    refine lv_aload_n hx hb dX7_difference_5 rfl (lv_at hl 0 rfl) ?_
    refine lv_iload_n hx hb dX7_difference_6 rfl (lv_at hl 2 rfl) ?_
    obtain ⟨kq4, ekq4, h0⟩ := ob_out h0
    by_cases c5 : kq4 = 0
    · have h0 := if_t c5 h0
      obtain ⟨x6, ex6, h0⟩ := ob_out h0
      have kx6 := m_X7_requireTube l D ca ar ag z P G xs a2  ex6 H.size
      refine z_callV K hZ X wC_fstx wC_fstx kx6 hl.1 1 q886 q888 q10 q87 q889 hv_X7_requireTube ⟨⟨Nat.le_of_ble_eq_true rfl, Nat.le_of_ble_eq_true rfl⟩, rfl, rfl⟩ (z_recvw K X (pl_glb (k := 0) (by decide)) rfl rfl) rfl rfl (Nat.le_of_ble_eq_true rfl) dX7_difference_7 ⟨Nat.le_of_ble_eq_true rfl, Nat.le_of_ble_eq_true rfl⟩ rfl (fun H locs X => ?_)
      cases h0
      exact absurd rfl hk
    · have h0 := if_f c5 h0
      cases h0
      subst hQ
      have kx := x_X7_requireTube l D ca ar ag z hl0 P G xs a2 res c5 ekq4 H.size
      exact z_xcallV K hex hZ X wC_fstx hsz kx hl.1 1 q886 q888 q10 q87 q889 hv_X7_requireTube ⟨⟨Nat.le_of_ble_eq_true rfl, Nat.le_of_ble_eq_true rfl⟩, rfl, rfl⟩ (z_recvw K X (pl_glb (k := 0) (by decide)) rfl rfl) rfl rfl (Nat.le_of_ble_eq_true rfl) dX7_difference_7 ⟨Nat.le_of_ble_eq_true rfl, Nat.le_of_ble_eq_true rfl⟩
  · have h0 := if_f c2 h0
    cases h0
    subst hQ
    have kx := x_X7_requireTube l D ca ar ag z hl0 P G xs a1 res c2 ekq1 H.size
    exact z_xcallV K hex hZ X wC_fstx hsz kx hl.1 1 q886 q888 q10 q87 q889 hv_X7_requireTube ⟨⟨Nat.le_of_ble_eq_true rfl, Nat.le_of_ble_eq_true rfl⟩, rfl, rfl⟩ (z_recvw K X (pl_glb (k := 0) (by decide)) rfl rfl) rfl rfl (Nat.le_of_ble_eq_true rfl) dX7_difference_2 ⟨Nat.le_of_ble_eq_true rfl, Nat.le_of_ble_eq_true rfl⟩
-- X7_room
def t_X7_room (P : RowsS) (G : GlbS) (a1 : Int32) : Option Nat :=
  ob (t_X7_requireTube P G a1) fun kq1 =>
  if kq1 = 0 then
    ob (f_X7_requireTube P G a1) fun x3 =>
    some 0
  else
    some kq1
abbrev rx_X7_room : Room := { frames := 7, cells := 1, slots := 6, locals := 104 }
set_option maxRecDepth 100000 in
set_option maxHeartbeats 4000000 in
theorem x_X7_room (l : Launch) (D : va_G) (ca : Nat → ClassId) (ar : Nat → Nat → Nat) (ag : Nat → Nat) (z : ZG) (hl0 : l.stackTraces = false) (P : RowsS) (G : GlbS) (xs : va_W) (a1 : Int32) (res : Nat) (hk : ¬ res = 0) (h0 : t_X7_room P G a1 = some res) (sz : Nat) : vx_Met l yX7_room (ws_ yX7_room cX7_room 3 (some .int)) rx_X7_room (PCz z D ca (wC ar ag ca P G ++ xs) sz [.ref (ag 0), .int a1]) QNo (XCw D (wC ar ag ca P G ++ xs) sz (eX res)) 1 6 (AL (wC ar ag ca P G ++ xs) sz) := by
  refine met_x (by decide) (Nat.le_of_ble_eq_true rfl) (fun p e s m args below meth c K hex hZ X hsz ls hl => ?_)
  have K : MC D ca p s m args meth c cX7_room 3 RX7 := K
  have hx := K.1
  have hb := K.2.1
  have hl : lv_has ls 3 [(0, .ref (ag 0)), (1, .int a1)] := hl
  generalize hQ : vx_MQ below _ _ args s 1 6 _ = Q
  unfold t_X7_room at h0
  suffices Z : ∀ (H : Heap) (locs : List Loc) (X : RW D (wC ar ag ca P G ++ xs) s.heap H locs), W p l e rx_X7_room s m args below meth c H locs 0 0 Q (F0 m 0 ls []) from Z _ _ X
  intro H locs X
  refine lv_aload_n hx hb dX7_room_0 rfl (lv_at hl 0 rfl) ?_
  refine lv_iload_n hx hb dX7_room_1 rfl (lv_at hl 1 rfl) ?_
  obtain ⟨kq1, ekq1, h0⟩ := ob_out h0
  by_cases c2 : kq1 = 0
  · have h0 := if_t c2 h0
    obtain ⟨x3, ex3, h0⟩ := ob_out h0
    have kx3 := m_X7_requireTube l D ca ar ag z P G xs a1  ex3 H.size
    refine z_callV K hZ X wC_fstx wC_fstx kx3 hl.1 1 q886 q888 q10 q87 q889 hv_X7_requireTube ⟨⟨Nat.le_of_ble_eq_true rfl, Nat.le_of_ble_eq_true rfl⟩, rfl, rfl⟩ (z_recvw K X (pl_glb (k := 0) (by decide)) rfl rfl) rfl rfl (Nat.le_of_ble_eq_true rfl) dX7_room_2 ⟨Nat.le_of_ble_eq_true rfl, Nat.le_of_ble_eq_true rfl⟩ rfl (fun H locs X => ?_)
    cases h0
    exact absurd rfl hk
  · have h0 := if_f c2 h0
    cases h0
    subst hQ
    have kx := x_X7_requireTube l D ca ar ag z hl0 P G xs a1 res c2 ekq1 H.size
    exact z_xcallV K hex hZ X wC_fstx hsz kx hl.1 1 q886 q888 q10 q87 q889 hv_X7_requireTube ⟨⟨Nat.le_of_ble_eq_true rfl, Nat.le_of_ble_eq_true rfl⟩, rfl, rfl⟩ (z_recvw K X (pl_glb (k := 0) (by decide)) rfl rfl) rfl rfl (Nat.le_of_ble_eq_true rfl) dX7_room_2 ⟨Nat.le_of_ble_eq_true rfl, Nat.le_of_ble_eq_true rfl⟩
-- X7_agree
def t_X7_agree (P : RowsS) (G : GlbS) (a1 : Int32) (a2 : Int32) : Option Nat :=
  ob (t_X7_requirePoint P G a1) fun kq1 =>
  if kq1 = 0 then
    ob (f_X7_requirePoint P G a1) fun x3 =>
    ob (t_X7_requireWithin a2 0 99999) fun kq4 =>
    if kq4 = 0 then
      ob (f_X7_requireWithin a2 0 99999) fun x6 =>
      some 0
    else
      some kq4
  else
    some kq1
abbrev rx_X7_agree : Room := { frames := 7, cells := 1, slots := 6, locals := 105 }
set_option maxRecDepth 100000 in
set_option maxHeartbeats 4000000 in
theorem x_X7_agree (l : Launch) (D : va_G) (ca : Nat → ClassId) (ar : Nat → Nat → Nat) (ag : Nat → Nat) (z : ZG) (hl0 : l.stackTraces = false) (P : RowsS) (G : GlbS) (xs : va_W) (a1 : Int32) (a2 : Int32) (res : Nat) (hk : ¬ res = 0) (h0 : t_X7_agree P G a1 a2 = some res) (sz : Nat) : vx_Met l yX7_agree (ws_ yX7_agree cX7_agree 9 (some .boolean)) rx_X7_agree (PCz z D ca (wC ar ag ca P G ++ xs) sz [.ref (ag 0), .int a1, .int a2]) QNo (XCw D (wC ar ag ca P G ++ xs) sz (eX res)) 1 6 (AL (wC ar ag ca P G ++ xs) sz) := by
  refine met_x (by decide) (Nat.le_of_ble_eq_true rfl) (fun p e s m args below meth c K hex hZ X hsz ls hl => ?_)
  have K : MC D ca p s m args meth c cX7_agree 9 RX7 := K
  have hx := K.1
  have hb := K.2.1
  have hl : lv_has ls 9 [(0, .ref (ag 0)), (1, .int a1), (2, .int a2)] := hl
  generalize hQ : vx_MQ below _ _ args s 1 6 _ = Q
  unfold t_X7_agree at h0
  suffices Z : ∀ (H : Heap) (locs : List Loc) (X : RW D (wC ar ag ca P G ++ xs) s.heap H locs), W p l e rx_X7_agree s m args below meth c H locs 0 0 Q (F0 m 0 ls []) from Z _ _ X
  intro H locs X
  refine lv_aload_n hx hb dX7_agree_0 rfl (lv_at hl 0 rfl) ?_
  refine lv_iload_n hx hb dX7_agree_1 rfl (lv_at hl 1 rfl) ?_
  obtain ⟨kq1, ekq1, h0⟩ := ob_out h0
  by_cases c2 : kq1 = 0
  · have h0 := if_t c2 h0
    obtain ⟨x3, ex3, h0⟩ := ob_out h0
    have kx3 := m_X7_requirePoint l D ca ar ag z P G xs a1  ex3 H.size
    refine z_callV K hZ X wC_fstx wC_fstx kx3 hl.1 1 q851 q853 q9 q87 q854 hv_X7_requirePoint ⟨⟨Nat.le_of_ble_eq_true rfl, Nat.le_of_ble_eq_true rfl⟩, rfl, rfl⟩ (z_recvw K X (pl_glb (k := 0) (by decide)) rfl rfl) rfl rfl (Nat.le_of_ble_eq_true rfl) dX7_agree_2 ⟨Nat.le_of_ble_eq_true rfl, Nat.le_of_ble_eq_true rfl⟩ rfl (fun H locs X => ?_)
    refine lv_iload_n hx hb dX7_agree_5 rfl (lv_at hl 2 rfl) ?_
    refine lv_iconst (v := 0) hx hb dX7_agree_6 (by decide) ?_
    refine lv_ldc hx hb K.2.2.2.1 (K.2.2.2.2.1 _ q935) dX7_agree_7 ?_
    obtain ⟨kq4, ekq4, h0⟩ := ob_out h0
    by_cases c5 : kq4 = 0
    · have h0 := if_t c5 h0
      obtain ⟨x6, ex6, h0⟩ := ob_out h0
      have kx6 := m_X7_requireWithin l D ca z (wC ar ag ca P G ++ xs) a2 0 99999  ex6 H.size
      refine z_callS K hZ X wC_fstx wC_fstx kx6 hl.1 3 q557 q558 q87 q559 hs_X7_requireWithin ⟨⟨Nat.le_of_ble_eq_true rfl, Nat.le_of_ble_eq_true rfl⟩, rfl, rfl⟩ rfl rfl (Nat.le_of_ble_eq_true rfl) dX7_agree_9 ⟨Nat.le_of_ble_eq_true rfl, Nat.le_of_ble_eq_true rfl⟩ rfl (fun H locs X => ?_)
      cases h0
      exact absurd rfl hk
    · have h0 := if_f c5 h0
      cases h0
      subst hQ
      have kx := x_X7_requireWithin l D ca z hl0 (wC ar ag ca P G ++ xs) a2 0 99999 res c5 ekq4 H.size
      exact z_xcallS K hex hZ X wC_fstx hsz kx hl.1 3 q557 q558 q87 q559 hs_X7_requireWithin ⟨⟨Nat.le_of_ble_eq_true rfl, Nat.le_of_ble_eq_true rfl⟩, rfl, rfl⟩ rfl rfl (Nat.le_of_ble_eq_true rfl) dX7_agree_9 ⟨Nat.le_of_ble_eq_true rfl, Nat.le_of_ble_eq_true rfl⟩
  · have h0 := if_f c2 h0
    cases h0
    subst hQ
    have kx := x_X7_requirePoint l D ca ar ag z hl0 P G xs a1 res c2 ekq1 H.size
    exact z_xcallV K hex hZ X wC_fstx hsz kx hl.1 1 q851 q853 q9 q87 q854 hv_X7_requirePoint ⟨⟨Nat.le_of_ble_eq_true rfl, Nat.le_of_ble_eq_true rfl⟩, rfl, rfl⟩ (z_recvw K X (pl_glb (k := 0) (by decide)) rfl rfl) rfl rfl (Nat.le_of_ble_eq_true rfl) dX7_agree_2 ⟨Nat.le_of_ble_eq_true rfl, Nat.le_of_ble_eq_true rfl⟩
-- X7_wouldBreak
def t_X7_wouldBreak (P : RowsS) (G : GlbS) (a1 : Int32) (a2 : Int32) : Option Nat :=
  ob (t_X7_requirePoint P G a1) fun kq1 =>
  if kq1 = 0 then
    ob (f_X7_requirePoint P G a1) fun x3 =>
    ob (t_X7_requireWithin a2 0 99999) fun kq4 =>
    if kq4 = 0 then
      ob (f_X7_requireWithin a2 0 99999) fun x6 =>
      some 0
    else
      some kq4
  else
    some kq1
abbrev rx_X7_wouldBreak : Room := { frames := 7, cells := 1, slots := 6, locals := 105 }
set_option maxRecDepth 100000 in
set_option maxHeartbeats 4000000 in
theorem x_X7_wouldBreak (l : Launch) (D : va_G) (ca : Nat → ClassId) (ar : Nat → Nat → Nat) (ag : Nat → Nat) (z : ZG) (hl0 : l.stackTraces = false) (P : RowsS) (G : GlbS) (xs : va_W) (a1 : Int32) (a2 : Int32) (res : Nat) (hk : ¬ res = 0) (h0 : t_X7_wouldBreak P G a1 a2 = some res) (sz : Nat) : vx_Met l yX7_wouldBreak (ws_ yX7_wouldBreak cX7_wouldBreak 5 (some .int)) rx_X7_wouldBreak (PCz z D ca (wC ar ag ca P G ++ xs) sz [.ref (ag 0), .int a1, .int a2]) QNo (XCw D (wC ar ag ca P G ++ xs) sz (eX res)) 1 6 (AL (wC ar ag ca P G ++ xs) sz) := by
  refine met_x (by decide) (Nat.le_of_ble_eq_true rfl) (fun p e s m args below meth c K hex hZ X hsz ls hl => ?_)
  have K : MC D ca p s m args meth c cX7_wouldBreak 5 RX7 := K
  have hx := K.1
  have hb := K.2.1
  have hl : lv_has ls 5 [(0, .ref (ag 0)), (1, .int a1), (2, .int a2)] := hl
  generalize hQ : vx_MQ below _ _ args s 1 6 _ = Q
  unfold t_X7_wouldBreak at h0
  suffices Z : ∀ (H : Heap) (locs : List Loc) (X : RW D (wC ar ag ca P G ++ xs) s.heap H locs), W p l e rx_X7_wouldBreak s m args below meth c H locs 0 0 Q (F0 m 0 ls []) from Z _ _ X
  intro H locs X
  refine lv_aload_n hx hb dX7_wouldBreak_0 rfl (lv_at hl 0 rfl) ?_
  refine lv_iload_n hx hb dX7_wouldBreak_1 rfl (lv_at hl 1 rfl) ?_
  obtain ⟨kq1, ekq1, h0⟩ := ob_out h0
  by_cases c2 : kq1 = 0
  · have h0 := if_t c2 h0
    obtain ⟨x3, ex3, h0⟩ := ob_out h0
    have kx3 := m_X7_requirePoint l D ca ar ag z P G xs a1  ex3 H.size
    refine z_callV K hZ X wC_fstx wC_fstx kx3 hl.1 1 q851 q853 q9 q87 q854 hv_X7_requirePoint ⟨⟨Nat.le_of_ble_eq_true rfl, Nat.le_of_ble_eq_true rfl⟩, rfl, rfl⟩ (z_recvw K X (pl_glb (k := 0) (by decide)) rfl rfl) rfl rfl (Nat.le_of_ble_eq_true rfl) dX7_wouldBreak_2 ⟨Nat.le_of_ble_eq_true rfl, Nat.le_of_ble_eq_true rfl⟩ rfl (fun H locs X => ?_)
    refine lv_iload_n hx hb dX7_wouldBreak_5 rfl (lv_at hl 2 rfl) ?_
    refine lv_iconst (v := 0) hx hb dX7_wouldBreak_6 (by decide) ?_
    refine lv_ldc hx hb K.2.2.2.1 (K.2.2.2.2.1 _ q935) dX7_wouldBreak_7 ?_
    obtain ⟨kq4, ekq4, h0⟩ := ob_out h0
    by_cases c5 : kq4 = 0
    · have h0 := if_t c5 h0
      obtain ⟨x6, ex6, h0⟩ := ob_out h0
      have kx6 := m_X7_requireWithin l D ca z (wC ar ag ca P G ++ xs) a2 0 99999  ex6 H.size
      refine z_callS K hZ X wC_fstx wC_fstx kx6 hl.1 3 q557 q558 q87 q559 hs_X7_requireWithin ⟨⟨Nat.le_of_ble_eq_true rfl, Nat.le_of_ble_eq_true rfl⟩, rfl, rfl⟩ rfl rfl (Nat.le_of_ble_eq_true rfl) dX7_wouldBreak_9 ⟨Nat.le_of_ble_eq_true rfl, Nat.le_of_ble_eq_true rfl⟩ rfl (fun H locs X => ?_)
      cases h0
      exact absurd rfl hk
    · have h0 := if_f c5 h0
      cases h0
      subst hQ
      have kx := x_X7_requireWithin l D ca z hl0 (wC ar ag ca P G ++ xs) a2 0 99999 res c5 ekq4 H.size
      exact z_xcallS K hex hZ X wC_fstx hsz kx hl.1 3 q557 q558 q87 q559 hs_X7_requireWithin ⟨⟨Nat.le_of_ble_eq_true rfl, Nat.le_of_ble_eq_true rfl⟩, rfl, rfl⟩ rfl rfl (Nat.le_of_ble_eq_true rfl) dX7_wouldBreak_9 ⟨Nat.le_of_ble_eq_true rfl, Nat.le_of_ble_eq_true rfl⟩
  · have h0 := if_f c2 h0
    cases h0
    subst hQ
    have kx := x_X7_requirePoint l D ca ar ag z hl0 P G xs a1 res c2 ekq1 H.size
    exact z_xcallV K hex hZ X wC_fstx hsz kx hl.1 1 q851 q853 q9 q87 q854 hv_X7_requirePoint ⟨⟨Nat.le_of_ble_eq_true rfl, Nat.le_of_ble_eq_true rfl⟩, rfl, rfl⟩ (z_recvw K X (pl_glb (k := 0) (by decide)) rfl rfl) rfl rfl (Nat.le_of_ble_eq_true rfl) dX7_wouldBreak_2 ⟨Nat.le_of_ble_eq_true rfl, Nat.le_of_ble_eq_true rfl⟩
-- X7_readingWith
def t_X7_readingWith (P : RowsS) (G : GlbS) (a1 : Int32) (a2 : Int32) (a3 : Int32) : Option Nat :=
  ob (t_X7_requireTube P G a1) fun kq1 =>
  if kq1 = 0 then
    ob (f_X7_requireTube P G a1) fun x3 =>
    ob (t_X7_requirePoint P G a2) fun kq4 =>
    if kq4 = 0 then
      ob (f_X7_requirePoint P G a2) fun x6 =>
      ob (t_X7_requireWithin a3 0 99999) fun kq7 =>
      if kq7 = 0 then
        ob (f_X7_requireWithin a3 0 99999) fun x9 =>
        some 0
      else
        some kq7
    else
      some kq4
  else
    some kq1
abbrev rx_X7_readingWith : Room := { frames := 7, cells := 1, slots := 6, locals := 105 }
set_option maxRecDepth 100000 in
set_option maxHeartbeats 4000000 in
theorem x_X7_readingWith (l : Launch) (D : va_G) (ca : Nat → ClassId) (ar : Nat → Nat → Nat) (ag : Nat → Nat) (z : ZG) (hl0 : l.stackTraces = false) (P : RowsS) (G : GlbS) (xs : va_W) (a1 : Int32) (a2 : Int32) (a3 : Int32) (res : Nat) (hk : ¬ res = 0) (h0 : t_X7_readingWith P G a1 a2 a3 = some res) (sz : Nat) : vx_Met l yX7_readingWith (ws_ yX7_readingWith cX7_readingWith 4 (some .int)) rx_X7_readingWith (PCz z D ca (wC ar ag ca P G ++ xs) sz [.ref (ag 0), .int a1, .int a2, .int a3]) QNo (XCw D (wC ar ag ca P G ++ xs) sz (eX res)) 1 6 (AL (wC ar ag ca P G ++ xs) sz) := by
  refine met_x (by decide) (Nat.le_of_ble_eq_true rfl) (fun p e s m args below meth c K hex hZ X hsz ls hl => ?_)
  have K : MC D ca p s m args meth c cX7_readingWith 4 RX7 := K
  have hx := K.1
  have hb := K.2.1
  have hl : lv_has ls 4 [(0, .ref (ag 0)), (1, .int a1), (2, .int a2), (3, .int a3)] := hl
  generalize hQ : vx_MQ below _ _ args s 1 6 _ = Q
  unfold t_X7_readingWith at h0
  suffices Z : ∀ (H : Heap) (locs : List Loc) (X : RW D (wC ar ag ca P G ++ xs) s.heap H locs), W p l e rx_X7_readingWith s m args below meth c H locs 0 0 Q (F0 m 0 ls []) from Z _ _ X
  intro H locs X
  refine lv_aload_n hx hb dX7_readingWith_0 rfl (lv_at hl 0 rfl) ?_
  refine lv_iload_n hx hb dX7_readingWith_1 rfl (lv_at hl 1 rfl) ?_
  obtain ⟨kq1, ekq1, h0⟩ := ob_out h0
  by_cases c2 : kq1 = 0
  · have h0 := if_t c2 h0
    obtain ⟨x3, ex3, h0⟩ := ob_out h0
    have kx3 := m_X7_requireTube l D ca ar ag z P G xs a1  ex3 H.size
    refine z_callV K hZ X wC_fstx wC_fstx kx3 hl.1 1 q886 q888 q10 q87 q889 hv_X7_requireTube ⟨⟨Nat.le_of_ble_eq_true rfl, Nat.le_of_ble_eq_true rfl⟩, rfl, rfl⟩ (z_recvw K X (pl_glb (k := 0) (by decide)) rfl rfl) rfl rfl (Nat.le_of_ble_eq_true rfl) dX7_readingWith_2 ⟨Nat.le_of_ble_eq_true rfl, Nat.le_of_ble_eq_true rfl⟩ rfl (fun H locs X => ?_)
    refine lv_aload_n hx hb dX7_readingWith_5 rfl (lv_at hl 0 rfl) ?_
    refine lv_iload_n hx hb dX7_readingWith_6 rfl (lv_at hl 2 rfl) ?_
    obtain ⟨kq4, ekq4, h0⟩ := ob_out h0
    by_cases c5 : kq4 = 0
    · have h0 := if_t c5 h0
      obtain ⟨x6, ex6, h0⟩ := ob_out h0
      have kx6 := m_X7_requirePoint l D ca ar ag z P G xs a2  ex6 H.size
      refine z_callV K hZ X wC_fstx wC_fstx kx6 hl.1 1 q851 q853 q9 q87 q854 hv_X7_requirePoint ⟨⟨Nat.le_of_ble_eq_true rfl, Nat.le_of_ble_eq_true rfl⟩, rfl, rfl⟩ (z_recvw K X (pl_glb (k := 0) (by decide)) rfl rfl) rfl rfl (Nat.le_of_ble_eq_true rfl) dX7_readingWith_7 ⟨Nat.le_of_ble_eq_true rfl, Nat.le_of_ble_eq_true rfl⟩ rfl (fun H locs X => ?_)
      refine lv_iload_n hx hb dX7_readingWith_10 rfl (lv_at hl 3 rfl) ?_
      refine lv_iconst (v := 0) hx hb dX7_readingWith_11 (by decide) ?_
      refine lv_ldc hx hb K.2.2.2.1 (K.2.2.2.2.1 _ q935) dX7_readingWith_12 ?_
      obtain ⟨kq7, ekq7, h0⟩ := ob_out h0
      by_cases c8 : kq7 = 0
      · have h0 := if_t c8 h0
        obtain ⟨x9, ex9, h0⟩ := ob_out h0
        have kx9 := m_X7_requireWithin l D ca z (wC ar ag ca P G ++ xs) a3 0 99999  ex9 H.size
        refine z_callS K hZ X wC_fstx wC_fstx kx9 hl.1 3 q557 q558 q87 q559 hs_X7_requireWithin ⟨⟨Nat.le_of_ble_eq_true rfl, Nat.le_of_ble_eq_true rfl⟩, rfl, rfl⟩ rfl rfl (Nat.le_of_ble_eq_true rfl) dX7_readingWith_14 ⟨Nat.le_of_ble_eq_true rfl, Nat.le_of_ble_eq_true rfl⟩ rfl (fun H locs X => ?_)
        cases h0
        exact absurd rfl hk
      · have h0 := if_f c8 h0
        cases h0
        subst hQ
        have kx := x_X7_requireWithin l D ca z hl0 (wC ar ag ca P G ++ xs) a3 0 99999 res c8 ekq7 H.size
        exact z_xcallS K hex hZ X wC_fstx hsz kx hl.1 3 q557 q558 q87 q559 hs_X7_requireWithin ⟨⟨Nat.le_of_ble_eq_true rfl, Nat.le_of_ble_eq_true rfl⟩, rfl, rfl⟩ rfl rfl (Nat.le_of_ble_eq_true rfl) dX7_readingWith_14 ⟨Nat.le_of_ble_eq_true rfl, Nat.le_of_ble_eq_true rfl⟩
    · have h0 := if_f c5 h0
      cases h0
      subst hQ
      have kx := x_X7_requirePoint l D ca ar ag z hl0 P G xs a2 res c5 ekq4 H.size
      exact z_xcallV K hex hZ X wC_fstx hsz kx hl.1 1 q851 q853 q9 q87 q854 hv_X7_requirePoint ⟨⟨Nat.le_of_ble_eq_true rfl, Nat.le_of_ble_eq_true rfl⟩, rfl, rfl⟩ (z_recvw K X (pl_glb (k := 0) (by decide)) rfl rfl) rfl rfl (Nat.le_of_ble_eq_true rfl) dX7_readingWith_7 ⟨Nat.le_of_ble_eq_true rfl, Nat.le_of_ble_eq_true rfl⟩
  · have h0 := if_f c2 h0
    cases h0
    subst hQ
    have kx := x_X7_requireTube l D ca ar ag z hl0 P G xs a1 res c2 ekq1 H.size
    exact z_xcallV K hex hZ X wC_fstx hsz kx hl.1 1 q886 q888 q10 q87 q889 hv_X7_requireTube ⟨⟨Nat.le_of_ble_eq_true rfl, Nat.le_of_ble_eq_true rfl⟩, rfl, rfl⟩ (z_recvw K X (pl_glb (k := 0) (by decide)) rfl rfl) rfl rfl (Nat.le_of_ble_eq_true rfl) dX7_readingWith_2 ⟨Nat.le_of_ble_eq_true rfl, Nat.le_of_ble_eq_true rfl⟩
-- X7_breaksIn
def t_X7_breaksIn (P : RowsS) (G : GlbS) (a1 : Int32) (a2 : Int32) : Option Nat :=
  ob (t_X7_requirePoint P G a1) fun kq1 =>
  if kq1 = 0 then
    ob (f_X7_requirePoint P G a1) fun x3 =>
    ob (t_X7_requireWithin a2 (-9999) 9999) fun kq4 =>
    if kq4 = 0 then
      ob (f_X7_requireWithin a2 (-9999) 9999) fun x6 =>
      some 0
    else
      some kq4
  else
    some kq1
abbrev rx_X7_breaksIn : Room := { frames := 7, cells := 1, slots := 6, locals := 105 }
set_option maxRecDepth 100000 in
set_option maxHeartbeats 4000000 in
theorem x_X7_breaksIn (l : Launch) (D : va_G) (ca : Nat → ClassId) (ar : Nat → Nat → Nat) (ag : Nat → Nat) (z : ZG) (hl0 : l.stackTraces = false) (P : RowsS) (G : GlbS) (xs : va_W) (a1 : Int32) (a2 : Int32) (res : Nat) (hk : ¬ res = 0) (h0 : t_X7_breaksIn P G a1 a2 = some res) (sz : Nat) : vx_Met l yX7_breaksIn (ws_ yX7_breaksIn cX7_breaksIn 5 (some .int)) rx_X7_breaksIn (PCz z D ca (wC ar ag ca P G ++ xs) sz [.ref (ag 0), .int a1, .int a2]) QNo (XCw D (wC ar ag ca P G ++ xs) sz (eX res)) 1 6 (AL (wC ar ag ca P G ++ xs) sz) := by
  refine met_x (by decide) (Nat.le_of_ble_eq_true rfl) (fun p e s m args below meth c K hex hZ X hsz ls hl => ?_)
  have K : MC D ca p s m args meth c cX7_breaksIn 5 RX7 := K
  have hx := K.1
  have hb := K.2.1
  have hl : lv_has ls 5 [(0, .ref (ag 0)), (1, .int a1), (2, .int a2)] := hl
  generalize hQ : vx_MQ below _ _ args s 1 6 _ = Q
  unfold t_X7_breaksIn at h0
  suffices Z : ∀ (H : Heap) (locs : List Loc) (X : RW D (wC ar ag ca P G ++ xs) s.heap H locs), W p l e rx_X7_breaksIn s m args below meth c H locs 0 0 Q (F0 m 0 ls []) from Z _ _ X
  intro H locs X
  refine lv_aload_n hx hb dX7_breaksIn_0 rfl (lv_at hl 0 rfl) ?_
  refine lv_iload_n hx hb dX7_breaksIn_1 rfl (lv_at hl 1 rfl) ?_
  obtain ⟨kq1, ekq1, h0⟩ := ob_out h0
  by_cases c2 : kq1 = 0
  · have h0 := if_t c2 h0
    obtain ⟨x3, ex3, h0⟩ := ob_out h0
    have kx3 := m_X7_requirePoint l D ca ar ag z P G xs a1  ex3 H.size
    refine z_callV K hZ X wC_fstx wC_fstx kx3 hl.1 1 q851 q853 q9 q87 q854 hv_X7_requirePoint ⟨⟨Nat.le_of_ble_eq_true rfl, Nat.le_of_ble_eq_true rfl⟩, rfl, rfl⟩ (z_recvw K X (pl_glb (k := 0) (by decide)) rfl rfl) rfl rfl (Nat.le_of_ble_eq_true rfl) dX7_breaksIn_2 ⟨Nat.le_of_ble_eq_true rfl, Nat.le_of_ble_eq_true rfl⟩ rfl (fun H locs X => ?_)
    refine lv_iload_n hx hb dX7_breaksIn_5 rfl (lv_at hl 2 rfl) ?_
    refine lv_sipush (v := (-9999)) hx hb dX7_breaksIn_6 (by decide) ?_
    refine lv_sipush (v := 9999) hx hb dX7_breaksIn_9 (by decide) ?_
    obtain ⟨kq4, ekq4, h0⟩ := ob_out h0
    by_cases c5 : kq4 = 0
    · have h0 := if_t c5 h0
      obtain ⟨x6, ex6, h0⟩ := ob_out h0
      have kx6 := m_X7_requireWithin l D ca z (wC ar ag ca P G ++ xs) a2 (-9999) 9999  ex6 H.size
      refine z_callS K hZ X wC_fstx wC_fstx kx6 hl.1 3 q557 q558 q87 q559 hs_X7_requireWithin ⟨⟨Nat.le_of_ble_eq_true rfl, Nat.le_of_ble_eq_true rfl⟩, rfl, rfl⟩ rfl rfl (Nat.le_of_ble_eq_true rfl) dX7_breaksIn_12 ⟨Nat.le_of_ble_eq_true rfl, Nat.le_of_ble_eq_true rfl⟩ rfl (fun H locs X => ?_)
      cases h0
      exact absurd rfl hk
    · have h0 := if_f c5 h0
      cases h0
      subst hQ
      have kx := x_X7_requireWithin l D ca z hl0 (wC ar ag ca P G ++ xs) a2 (-9999) 9999 res c5 ekq4 H.size
      exact z_xcallS K hex hZ X wC_fstx hsz kx hl.1 3 q557 q558 q87 q559 hs_X7_requireWithin ⟨⟨Nat.le_of_ble_eq_true rfl, Nat.le_of_ble_eq_true rfl⟩, rfl, rfl⟩ rfl rfl (Nat.le_of_ble_eq_true rfl) dX7_breaksIn_12 ⟨Nat.le_of_ble_eq_true rfl, Nat.le_of_ble_eq_true rfl⟩
  · have h0 := if_f c2 h0
    cases h0
    subst hQ
    have kx := x_X7_requirePoint l D ca ar ag z hl0 P G xs a1 res c2 ekq1 H.size
    exact z_xcallV K hex hZ X wC_fstx hsz kx hl.1 1 q851 q853 q9 q87 q854 hv_X7_requirePoint ⟨⟨Nat.le_of_ble_eq_true rfl, Nat.le_of_ble_eq_true rfl⟩, rfl, rfl⟩ (z_recvw K X (pl_glb (k := 0) (by decide)) rfl rfl) rfl rfl (Nat.le_of_ble_eq_true rfl) dX7_breaksIn_2 ⟨Nat.le_of_ble_eq_true rfl, Nat.le_of_ble_eq_true rfl⟩
-- X7_bestSlant
def t_X7_bestSlant (P : RowsS) (G : GlbS) (a1 : Int32) : Option Nat :=
  ob (t_X7_requireTube P G a1) fun kq1 =>
  if kq1 = 0 then
    ob (f_X7_requireTube P G a1) fun x3 =>
    some 0
  else
    some kq1
abbrev rx_X7_bestSlant : Room := { frames := 7, cells := 1, slots := 6, locals := 104 }
set_option maxRecDepth 100000 in
set_option maxHeartbeats 4000000 in
theorem x_X7_bestSlant (l : Launch) (D : va_G) (ca : Nat → ClassId) (ar : Nat → Nat → Nat) (ag : Nat → Nat) (z : ZG) (hl0 : l.stackTraces = false) (P : RowsS) (G : GlbS) (xs : va_W) (a1 : Int32) (res : Nat) (hk : ¬ res = 0) (h0 : t_X7_bestSlant P G a1 = some res) (sz : Nat) : vx_Met l yX7_bestSlant (ws_ yX7_bestSlant cX7_bestSlant 5 (some .int)) rx_X7_bestSlant (PCz z D ca (wC ar ag ca P G ++ xs) sz [.ref (ag 0), .int a1]) QNo (XCw D (wC ar ag ca P G ++ xs) sz (eX res)) 1 6 (AL (wC ar ag ca P G ++ xs) sz) := by
  refine met_x (by decide) (Nat.le_of_ble_eq_true rfl) (fun p e s m args below meth c K hex hZ X hsz ls hl => ?_)
  have K : MC D ca p s m args meth c cX7_bestSlant 5 RX7 := K
  have hx := K.1
  have hb := K.2.1
  have hl : lv_has ls 5 [(0, .ref (ag 0)), (1, .int a1)] := hl
  generalize hQ : vx_MQ below _ _ args s 1 6 _ = Q
  unfold t_X7_bestSlant at h0
  suffices Z : ∀ (H : Heap) (locs : List Loc) (X : RW D (wC ar ag ca P G ++ xs) s.heap H locs), W p l e rx_X7_bestSlant s m args below meth c H locs 0 0 Q (F0 m 0 ls []) from Z _ _ X
  intro H locs X
  refine lv_aload_n hx hb dX7_bestSlant_0 rfl (lv_at hl 0 rfl) ?_
  refine lv_iload_n hx hb dX7_bestSlant_1 rfl (lv_at hl 1 rfl) ?_
  obtain ⟨kq1, ekq1, h0⟩ := ob_out h0
  by_cases c2 : kq1 = 0
  · have h0 := if_t c2 h0
    obtain ⟨x3, ex3, h0⟩ := ob_out h0
    have kx3 := m_X7_requireTube l D ca ar ag z P G xs a1  ex3 H.size
    refine z_callV K hZ X wC_fstx wC_fstx kx3 hl.1 1 q886 q888 q10 q87 q889 hv_X7_requireTube ⟨⟨Nat.le_of_ble_eq_true rfl, Nat.le_of_ble_eq_true rfl⟩, rfl, rfl⟩ (z_recvw K X (pl_glb (k := 0) (by decide)) rfl rfl) rfl rfl (Nat.le_of_ble_eq_true rfl) dX7_bestSlant_2 ⟨Nat.le_of_ble_eq_true rfl, Nat.le_of_ble_eq_true rfl⟩ rfl (fun H locs X => ?_)
    cases h0
    exact absurd rfl hk
  · have h0 := if_f c2 h0
    cases h0
    subst hQ
    have kx := x_X7_requireTube l D ca ar ag z hl0 P G xs a1 res c2 ekq1 H.size
    exact z_xcallV K hex hZ X wC_fstx hsz kx hl.1 1 q886 q888 q10 q87 q889 hv_X7_requireTube ⟨⟨Nat.le_of_ble_eq_true rfl, Nat.le_of_ble_eq_true rfl⟩, rfl, rfl⟩ (z_recvw K X (pl_glb (k := 0) (by decide)) rfl rfl) rfl rfl (Nat.le_of_ble_eq_true rfl) dX7_bestSlant_2 ⟨Nat.le_of_ble_eq_true rfl, Nat.le_of_ble_eq_true rfl⟩
-- X7_lostWith
def t_X7_lostWith (P : RowsS) (G : GlbS) (a1 : Int32) : Option Nat :=
  ob (t_X7_requireWithin a1 0 99999) fun kq1 =>
  if kq1 = 0 then
    ob (f_X7_requireWithin a1 0 99999) fun x3 =>
    some 0
  else
    some kq1
abbrev rx_X7_lostWith : Room := { frames := 7, cells := 1, slots := 6, locals := 105 }
set_option maxRecDepth 100000 in
set_option maxHeartbeats 4000000 in
theorem x_X7_lostWith (l : Launch) (D : va_G) (ca : Nat → ClassId) (ar : Nat → Nat → Nat) (ag : Nat → Nat) (z : ZG) (hl0 : l.stackTraces = false) (P : RowsS) (G : GlbS) (xs : va_W) (a1 : Int32) (res : Nat) (hk : ¬ res = 0) (h0 : t_X7_lostWith P G a1 = some res) (sz : Nat) : vx_Met l yX7_lostWith (ws_ yX7_lostWith cX7_lostWith 2 (some .int)) rx_X7_lostWith (PCz z D ca (wC ar ag ca P G ++ xs) sz [.ref (ag 0), .int a1]) QNo (XCw D (wC ar ag ca P G ++ xs) sz (eX res)) 1 6 (AL (wC ar ag ca P G ++ xs) sz) := by
  refine met_x (by decide) (Nat.le_of_ble_eq_true rfl) (fun p e s m args below meth c K hex hZ X hsz ls hl => ?_)
  have K : MC D ca p s m args meth c cX7_lostWith 2 RX7 := K
  have hx := K.1
  have hb := K.2.1
  have hl : lv_has ls 2 [(0, .ref (ag 0)), (1, .int a1)] := hl
  generalize hQ : vx_MQ below _ _ args s 1 6 _ = Q
  unfold t_X7_lostWith at h0
  suffices Z : ∀ (H : Heap) (locs : List Loc) (X : RW D (wC ar ag ca P G ++ xs) s.heap H locs), W p l e rx_X7_lostWith s m args below meth c H locs 0 0 Q (F0 m 0 ls []) from Z _ _ X
  intro H locs X
  refine lv_iload_n hx hb dX7_lostWith_0 rfl (lv_at hl 1 rfl) ?_
  refine lv_iconst (v := 0) hx hb dX7_lostWith_1 (by decide) ?_
  refine lv_ldc hx hb K.2.2.2.1 (K.2.2.2.2.1 _ q935) dX7_lostWith_2 ?_
  obtain ⟨kq1, ekq1, h0⟩ := ob_out h0
  by_cases c2 : kq1 = 0
  · have h0 := if_t c2 h0
    obtain ⟨x3, ex3, h0⟩ := ob_out h0
    have kx3 := m_X7_requireWithin l D ca z (wC ar ag ca P G ++ xs) a1 0 99999  ex3 H.size
    refine z_callS K hZ X wC_fstx wC_fstx kx3 hl.1 3 q557 q558 q87 q559 hs_X7_requireWithin ⟨⟨Nat.le_of_ble_eq_true rfl, Nat.le_of_ble_eq_true rfl⟩, rfl, rfl⟩ rfl rfl (Nat.le_of_ble_eq_true rfl) dX7_lostWith_4 ⟨Nat.le_of_ble_eq_true rfl, Nat.le_of_ble_eq_true rfl⟩ rfl (fun H locs X => ?_)
    cases h0
    exact absurd rfl hk
  · have h0 := if_f c2 h0
    cases h0
    subst hQ
    have kx := x_X7_requireWithin l D ca z hl0 (wC ar ag ca P G ++ xs) a1 0 99999 res c2 ekq1 H.size
    exact z_xcallS K hex hZ X wC_fstx hsz kx hl.1 3 q557 q558 q87 q559 hs_X7_requireWithin ⟨⟨Nat.le_of_ble_eq_true rfl, Nat.le_of_ble_eq_true rfl⟩, rfl, rfl⟩ rfl rfl (Nat.le_of_ble_eq_true rfl) dX7_lostWith_4 ⟨Nat.le_of_ble_eq_true rfl, Nat.le_of_ble_eq_true rfl⟩
-- X7_setPressure
def t_X7_setPressure (P : RowsS) (G : GlbS) (a1 : Int32) (a2 : Int32) : Option Nat :=
  ob (t_X7_requirePoint P G a1) fun kq1 =>
  if kq1 = 0 then
    ob (f_X7_requirePoint P G a1) fun x3 =>
    ob (t_X7_requireWithin a2 0 99999) fun kq4 =>
    if kq4 = 0 then
      ob (f_X7_requireWithin a2 0 99999) fun x6 =>
      some 0
    else
      some kq4
  else
    some kq1
abbrev rx_X7_setPressure : Room := { frames := 7, cells := 1, slots := 6, locals := 105 }
set_option maxRecDepth 100000 in
set_option maxHeartbeats 4000000 in
theorem x_X7_setPressure (l : Launch) (D : va_G) (ca : Nat → ClassId) (ar : Nat → Nat → Nat) (ag : Nat → Nat) (z : ZG) (hl0 : l.stackTraces = false) (P : RowsS) (G : GlbS) (xs : va_W) (a1 : Int32) (a2 : Int32) (res : Nat) (hk : ¬ res = 0) (h0 : t_X7_setPressure P G a1 a2 = some res) (sz : Nat) : vx_Met l yX7_setPressure (ws_ yX7_setPressure cX7_setPressure 3 (some .int)) rx_X7_setPressure (PCz z D ca (wC ar ag ca P G ++ xs) sz [.ref (ag 0), .int a1, .int a2]) QNo (XCw D (wC ar ag ca P G ++ xs) sz (eX res)) 1 6 (AL (wC ar ag ca P G ++ xs) sz) := by
  refine met_x (by decide) (Nat.le_of_ble_eq_true rfl) (fun p e s m args below meth c K hex hZ X hsz ls hl => ?_)
  have K : MC D ca p s m args meth c cX7_setPressure 3 RX7 := K
  have hx := K.1
  have hb := K.2.1
  have hl : lv_has ls 3 [(0, .ref (ag 0)), (1, .int a1), (2, .int a2)] := hl
  generalize hQ : vx_MQ below _ _ args s 1 6 _ = Q
  unfold t_X7_setPressure at h0
  suffices Z : ∀ (H : Heap) (locs : List Loc) (X : RW D (wC ar ag ca P G ++ xs) s.heap H locs), W p l e rx_X7_setPressure s m args below meth c H locs 0 0 Q (F0 m 0 ls []) from Z _ _ X
  intro H locs X
  refine lv_aload_n hx hb dX7_setPressure_0 rfl (lv_at hl 0 rfl) ?_
  refine lv_iload_n hx hb dX7_setPressure_1 rfl (lv_at hl 1 rfl) ?_
  obtain ⟨kq1, ekq1, h0⟩ := ob_out h0
  by_cases c2 : kq1 = 0
  · have h0 := if_t c2 h0
    obtain ⟨x3, ex3, h0⟩ := ob_out h0
    have kx3 := m_X7_requirePoint l D ca ar ag z P G xs a1  ex3 H.size
    refine z_callV K hZ X wC_fstx wC_fstx kx3 hl.1 1 q851 q853 q9 q87 q854 hv_X7_requirePoint ⟨⟨Nat.le_of_ble_eq_true rfl, Nat.le_of_ble_eq_true rfl⟩, rfl, rfl⟩ (z_recvw K X (pl_glb (k := 0) (by decide)) rfl rfl) rfl rfl (Nat.le_of_ble_eq_true rfl) dX7_setPressure_2 ⟨Nat.le_of_ble_eq_true rfl, Nat.le_of_ble_eq_true rfl⟩ rfl (fun H locs X => ?_)
    refine lv_iload_n hx hb dX7_setPressure_5 rfl (lv_at hl 2 rfl) ?_
    refine lv_iconst (v := 0) hx hb dX7_setPressure_6 (by decide) ?_
    refine lv_ldc hx hb K.2.2.2.1 (K.2.2.2.2.1 _ q935) dX7_setPressure_7 ?_
    obtain ⟨kq4, ekq4, h0⟩ := ob_out h0
    by_cases c5 : kq4 = 0
    · have h0 := if_t c5 h0
      obtain ⟨x6, ex6, h0⟩ := ob_out h0
      have kx6 := m_X7_requireWithin l D ca z (wC ar ag ca P G ++ xs) a2 0 99999  ex6 H.size
      refine z_callS K hZ X wC_fstx wC_fstx kx6 hl.1 3 q557 q558 q87 q559 hs_X7_requireWithin ⟨⟨Nat.le_of_ble_eq_true rfl, Nat.le_of_ble_eq_true rfl⟩, rfl, rfl⟩ rfl rfl (Nat.le_of_ble_eq_true rfl) dX7_setPressure_9 ⟨Nat.le_of_ble_eq_true rfl, Nat.le_of_ble_eq_true rfl⟩ rfl (fun H locs X => ?_)
      cases h0
      exact absurd rfl hk
    · have h0 := if_f c5 h0
      cases h0
      subst hQ
      have kx := x_X7_requireWithin l D ca z hl0 (wC ar ag ca P G ++ xs) a2 0 99999 res c5 ekq4 H.size
      exact z_xcallS K hex hZ X wC_fstx hsz kx hl.1 3 q557 q558 q87 q559 hs_X7_requireWithin ⟨⟨Nat.le_of_ble_eq_true rfl, Nat.le_of_ble_eq_true rfl⟩, rfl, rfl⟩ rfl rfl (Nat.le_of_ble_eq_true rfl) dX7_setPressure_9 ⟨Nat.le_of_ble_eq_true rfl, Nat.le_of_ble_eq_true rfl⟩
  · have h0 := if_f c2 h0
    cases h0
    subst hQ
    have kx := x_X7_requirePoint l D ca ar ag z hl0 P G xs a1 res c2 ekq1 H.size
    exact z_xcallV K hex hZ X wC_fstx hsz kx hl.1 1 q851 q853 q9 q87 q854 hv_X7_requirePoint ⟨⟨Nat.le_of_ble_eq_true rfl, Nat.le_of_ble_eq_true rfl⟩, rfl, rfl⟩ (z_recvw K X (pl_glb (k := 0) (by decide)) rfl rfl) rfl rfl (Nat.le_of_ble_eq_true rfl) dX7_setPressure_2 ⟨Nat.le_of_ble_eq_true rfl, Nat.le_of_ble_eq_true rfl⟩
-- X7_setReference
def t_X7_setReference (P : RowsS) (G : GlbS) (a1 : Int32) : Option Nat :=
  ob (t_X7_requireWithin a1 0 99999) fun kq1 =>
  if kq1 = 0 then
    ob (f_X7_requireWithin a1 0 99999) fun x3 =>
    some 0
  else
    some kq1
abbrev rx_X7_setReference : Room := { frames := 7, cells := 1, slots := 6, locals := 105 }
set_option maxRecDepth 100000 in
set_option maxHeartbeats 4000000 in
theorem x_X7_setReference (l : Launch) (D : va_G) (ca : Nat → ClassId) (ar : Nat → Nat → Nat) (ag : Nat → Nat) (z : ZG) (hl0 : l.stackTraces = false) (P : RowsS) (G : GlbS) (xs : va_W) (a1 : Int32) (res : Nat) (hk : ¬ res = 0) (h0 : t_X7_setReference P G a1 = some res) (sz : Nat) : vx_Met l yX7_setReference (ws_ yX7_setReference cX7_setReference 2 (some .int)) rx_X7_setReference (PCz z D ca (wC ar ag ca P G ++ xs) sz [.ref (ag 0), .int a1]) QNo (XCw D (wC ar ag ca P G ++ xs) sz (eX res)) 1 6 (AL (wC ar ag ca P G ++ xs) sz) := by
  refine met_x (by decide) (Nat.le_of_ble_eq_true rfl) (fun p e s m args below meth c K hex hZ X hsz ls hl => ?_)
  have K : MC D ca p s m args meth c cX7_setReference 2 RX7 := K
  have hx := K.1
  have hb := K.2.1
  have hl : lv_has ls 2 [(0, .ref (ag 0)), (1, .int a1)] := hl
  generalize hQ : vx_MQ below _ _ args s 1 6 _ = Q
  unfold t_X7_setReference at h0
  suffices Z : ∀ (H : Heap) (locs : List Loc) (X : RW D (wC ar ag ca P G ++ xs) s.heap H locs), W p l e rx_X7_setReference s m args below meth c H locs 0 0 Q (F0 m 0 ls []) from Z _ _ X
  intro H locs X
  refine lv_iload_n hx hb dX7_setReference_0 rfl (lv_at hl 1 rfl) ?_
  refine lv_iconst (v := 0) hx hb dX7_setReference_1 (by decide) ?_
  refine lv_ldc hx hb K.2.2.2.1 (K.2.2.2.2.1 _ q935) dX7_setReference_2 ?_
  obtain ⟨kq1, ekq1, h0⟩ := ob_out h0
  by_cases c2 : kq1 = 0
  · have h0 := if_t c2 h0
    obtain ⟨x3, ex3, h0⟩ := ob_out h0
    have kx3 := m_X7_requireWithin l D ca z (wC ar ag ca P G ++ xs) a1 0 99999  ex3 H.size
    refine z_callS K hZ X wC_fstx wC_fstx kx3 hl.1 3 q557 q558 q87 q559 hs_X7_requireWithin ⟨⟨Nat.le_of_ble_eq_true rfl, Nat.le_of_ble_eq_true rfl⟩, rfl, rfl⟩ rfl rfl (Nat.le_of_ble_eq_true rfl) dX7_setReference_4 ⟨Nat.le_of_ble_eq_true rfl, Nat.le_of_ble_eq_true rfl⟩ rfl (fun H locs X => ?_)
    cases h0
    exact absurd rfl hk
  · have h0 := if_f c2 h0
    cases h0
    subst hQ
    have kx := x_X7_requireWithin l D ca z hl0 (wC ar ag ca P G ++ xs) a1 0 99999 res c2 ekq1 H.size
    exact z_xcallS K hex hZ X wC_fstx hsz kx hl.1 3 q557 q558 q87 q559 hs_X7_requireWithin ⟨⟨Nat.le_of_ble_eq_true rfl, Nat.le_of_ble_eq_true rfl⟩, rfl, rfl⟩ rfl rfl (Nat.le_of_ble_eq_true rfl) dX7_setReference_4 ⟨Nat.le_of_ble_eq_true rfl, Nat.le_of_ble_eq_true rfl⟩
-- X7_sweep
def t_X7_sweep (P : RowsS) (G : GlbS) (a1 : Int32) (a2 : Int32) (a3 : Int32) : Option Nat :=
  ob (t_X7_requirePoint P G a1) fun kq1 =>
  if kq1 = 0 then
    ob (f_X7_requirePoint P G a1) fun x3 =>
    ob (t_X7_requireWithin a2 0 99999) fun kq4 =>
    if kq4 = 0 then
      ob (f_X7_requireWithin a2 0 99999) fun x6 =>
      ob (t_X7_requireWithin a3 1 50) fun kq7 =>
      if kq7 = 0 then
        ob (f_X7_requireWithin a3 1 50) fun x9 =>
        some 0
      else
        some kq7
    else
      some kq4
  else
    some kq1
abbrev rx_X7_sweep : Room := { frames := 7, cells := 1, slots := 6, locals := 105 }
set_option maxRecDepth 100000 in
set_option maxHeartbeats 4000000 in
theorem x_X7_sweep (l : Launch) (D : va_G) (ca : Nat → ClassId) (ar : Nat → Nat → Nat) (ag : Nat → Nat) (z : ZG) (hl0 : l.stackTraces = false) (P : RowsS) (G : GlbS) (xs : va_W) (a1 : Int32) (a2 : Int32) (a3 : Int32) (res : Nat) (hk : ¬ res = 0) (h0 : t_X7_sweep P G a1 a2 a3 = some res) (sz : Nat) : vx_Met l yX7_sweep (ws_ yX7_sweep cX7_sweep 7 (some .int)) rx_X7_sweep (PCz z D ca (wC ar ag ca P G ++ xs) sz [.ref (ag 0), .int a1, .int a2, .int a3]) QNo (XCw D (wC ar ag ca P G ++ xs) sz (eX res)) 1 6 (AL (wC ar ag ca P G ++ xs) sz) := by
  refine met_x (by decide) (Nat.le_of_ble_eq_true rfl) (fun p e s m args below meth c K hex hZ X hsz ls hl => ?_)
  have K : MC D ca p s m args meth c cX7_sweep 7 RX7 := K
  have hx := K.1
  have hb := K.2.1
  have hl : lv_has ls 7 [(0, .ref (ag 0)), (1, .int a1), (2, .int a2), (3, .int a3)] := hl
  generalize hQ : vx_MQ below _ _ args s 1 6 _ = Q
  unfold t_X7_sweep at h0
  suffices Z : ∀ (H : Heap) (locs : List Loc) (X : RW D (wC ar ag ca P G ++ xs) s.heap H locs), W p l e rx_X7_sweep s m args below meth c H locs 0 0 Q (F0 m 0 ls []) from Z _ _ X
  intro H locs X
  refine lv_aload_n hx hb dX7_sweep_0 rfl (lv_at hl 0 rfl) ?_
  refine lv_iload_n hx hb dX7_sweep_1 rfl (lv_at hl 1 rfl) ?_
  obtain ⟨kq1, ekq1, h0⟩ := ob_out h0
  by_cases c2 : kq1 = 0
  · have h0 := if_t c2 h0
    obtain ⟨x3, ex3, h0⟩ := ob_out h0
    have kx3 := m_X7_requirePoint l D ca ar ag z P G xs a1  ex3 H.size
    refine z_callV K hZ X wC_fstx wC_fstx kx3 hl.1 1 q851 q853 q9 q87 q854 hv_X7_requirePoint ⟨⟨Nat.le_of_ble_eq_true rfl, Nat.le_of_ble_eq_true rfl⟩, rfl, rfl⟩ (z_recvw K X (pl_glb (k := 0) (by decide)) rfl rfl) rfl rfl (Nat.le_of_ble_eq_true rfl) dX7_sweep_2 ⟨Nat.le_of_ble_eq_true rfl, Nat.le_of_ble_eq_true rfl⟩ rfl (fun H locs X => ?_)
    refine lv_iload_n hx hb dX7_sweep_5 rfl (lv_at hl 2 rfl) ?_
    refine lv_iconst (v := 0) hx hb dX7_sweep_6 (by decide) ?_
    refine lv_ldc hx hb K.2.2.2.1 (K.2.2.2.2.1 _ q935) dX7_sweep_7 ?_
    obtain ⟨kq4, ekq4, h0⟩ := ob_out h0
    by_cases c5 : kq4 = 0
    · have h0 := if_t c5 h0
      obtain ⟨x6, ex6, h0⟩ := ob_out h0
      have kx6 := m_X7_requireWithin l D ca z (wC ar ag ca P G ++ xs) a2 0 99999  ex6 H.size
      refine z_callS K hZ X wC_fstx wC_fstx kx6 hl.1 3 q557 q558 q87 q559 hs_X7_requireWithin ⟨⟨Nat.le_of_ble_eq_true rfl, Nat.le_of_ble_eq_true rfl⟩, rfl, rfl⟩ rfl rfl (Nat.le_of_ble_eq_true rfl) dX7_sweep_9 ⟨Nat.le_of_ble_eq_true rfl, Nat.le_of_ble_eq_true rfl⟩ rfl (fun H locs X => ?_)
      refine lv_iload_n hx hb dX7_sweep_12 rfl (lv_at hl 3 rfl) ?_
      refine lv_iconst (v := 1) hx hb dX7_sweep_13 (by decide) ?_
      refine lv_bipush (v := 50) hx hb dX7_sweep_14 (by decide) ?_
      obtain ⟨kq7, ekq7, h0⟩ := ob_out h0
      by_cases c8 : kq7 = 0
      · have h0 := if_t c8 h0
        obtain ⟨x9, ex9, h0⟩ := ob_out h0
        have kx9 := m_X7_requireWithin l D ca z (wC ar ag ca P G ++ xs) a3 1 50  ex9 H.size
        refine z_callS K hZ X wC_fstx wC_fstx kx9 hl.1 3 q557 q558 q87 q559 hs_X7_requireWithin ⟨⟨Nat.le_of_ble_eq_true rfl, Nat.le_of_ble_eq_true rfl⟩, rfl, rfl⟩ rfl rfl (Nat.le_of_ble_eq_true rfl) dX7_sweep_16 ⟨Nat.le_of_ble_eq_true rfl, Nat.le_of_ble_eq_true rfl⟩ rfl (fun H locs X => ?_)
        cases h0
        exact absurd rfl hk
      · have h0 := if_f c8 h0
        cases h0
        subst hQ
        have kx := x_X7_requireWithin l D ca z hl0 (wC ar ag ca P G ++ xs) a3 1 50 res c8 ekq7 H.size
        exact z_xcallS K hex hZ X wC_fstx hsz kx hl.1 3 q557 q558 q87 q559 hs_X7_requireWithin ⟨⟨Nat.le_of_ble_eq_true rfl, Nat.le_of_ble_eq_true rfl⟩, rfl, rfl⟩ rfl rfl (Nat.le_of_ble_eq_true rfl) dX7_sweep_16 ⟨Nat.le_of_ble_eq_true rfl, Nat.le_of_ble_eq_true rfl⟩
    · have h0 := if_f c5 h0
      cases h0
      subst hQ
      have kx := x_X7_requireWithin l D ca z hl0 (wC ar ag ca P G ++ xs) a2 0 99999 res c5 ekq4 H.size
      exact z_xcallS K hex hZ X wC_fstx hsz kx hl.1 3 q557 q558 q87 q559 hs_X7_requireWithin ⟨⟨Nat.le_of_ble_eq_true rfl, Nat.le_of_ble_eq_true rfl⟩, rfl, rfl⟩ rfl rfl (Nat.le_of_ble_eq_true rfl) dX7_sweep_9 ⟨Nat.le_of_ble_eq_true rfl, Nat.le_of_ble_eq_true rfl⟩
  · have h0 := if_f c2 h0
    cases h0
    subst hQ
    have kx := x_X7_requirePoint l D ca ar ag z hl0 P G xs a1 res c2 ekq1 H.size
    exact z_xcallV K hex hZ X wC_fstx hsz kx hl.1 1 q851 q853 q9 q87 q854 hv_X7_requirePoint ⟨⟨Nat.le_of_ble_eq_true rfl, Nat.le_of_ble_eq_true rfl⟩, rfl, rfl⟩ (z_recvw K X (pl_glb (k := 0) (by decide)) rfl rfl) rfl rfl (Nat.le_of_ble_eq_true rfl) dX7_sweep_2 ⟨Nat.le_of_ble_eq_true rfl, Nat.le_of_ble_eq_true rfl⟩
-- X7_setSlant
def t_X7_setSlant (P : RowsS) (G : GlbS) (a1 : Int32) (a2 : Int32) : Option Nat :=
  ob (t_X7_requireTube P G a1) fun kq1 =>
  if kq1 = 0 then
    ob (f_X7_requireTube P G a1) fun x3 =>
    ob (t_X7_requireWithin a2 50 1000) fun kq4 =>
    if kq4 = 0 then
      ob (f_X7_requireWithin a2 50 1000) fun x6 =>
      some 0
    else
      some kq4
  else
    some kq1
abbrev rx_X7_setSlant : Room := { frames := 7, cells := 1, slots := 6, locals := 105 }
set_option maxRecDepth 100000 in
set_option maxHeartbeats 4000000 in
theorem x_X7_setSlant (l : Launch) (D : va_G) (ca : Nat → ClassId) (ar : Nat → Nat → Nat) (ag : Nat → Nat) (z : ZG) (hl0 : l.stackTraces = false) (P : RowsS) (G : GlbS) (xs : va_W) (a1 : Int32) (a2 : Int32) (res : Nat) (hk : ¬ res = 0) (h0 : t_X7_setSlant P G a1 a2 = some res) (sz : Nat) : vx_Met l yX7_setSlant (ws_ yX7_setSlant cX7_setSlant 3 (some .int)) rx_X7_setSlant (PCz z D ca (wC ar ag ca P G ++ xs) sz [.ref (ag 0), .int a1, .int a2]) QNo (XCw D (wC ar ag ca P G ++ xs) sz (eX res)) 1 6 (AL (wC ar ag ca P G ++ xs) sz) := by
  refine met_x (by decide) (Nat.le_of_ble_eq_true rfl) (fun p e s m args below meth c K hex hZ X hsz ls hl => ?_)
  have K : MC D ca p s m args meth c cX7_setSlant 3 RX7 := K
  have hx := K.1
  have hb := K.2.1
  have hl : lv_has ls 3 [(0, .ref (ag 0)), (1, .int a1), (2, .int a2)] := hl
  generalize hQ : vx_MQ below _ _ args s 1 6 _ = Q
  unfold t_X7_setSlant at h0
  suffices Z : ∀ (H : Heap) (locs : List Loc) (X : RW D (wC ar ag ca P G ++ xs) s.heap H locs), W p l e rx_X7_setSlant s m args below meth c H locs 0 0 Q (F0 m 0 ls []) from Z _ _ X
  intro H locs X
  refine lv_aload_n hx hb dX7_setSlant_0 rfl (lv_at hl 0 rfl) ?_
  refine lv_iload_n hx hb dX7_setSlant_1 rfl (lv_at hl 1 rfl) ?_
  obtain ⟨kq1, ekq1, h0⟩ := ob_out h0
  by_cases c2 : kq1 = 0
  · have h0 := if_t c2 h0
    obtain ⟨x3, ex3, h0⟩ := ob_out h0
    have kx3 := m_X7_requireTube l D ca ar ag z P G xs a1  ex3 H.size
    refine z_callV K hZ X wC_fstx wC_fstx kx3 hl.1 1 q886 q888 q10 q87 q889 hv_X7_requireTube ⟨⟨Nat.le_of_ble_eq_true rfl, Nat.le_of_ble_eq_true rfl⟩, rfl, rfl⟩ (z_recvw K X (pl_glb (k := 0) (by decide)) rfl rfl) rfl rfl (Nat.le_of_ble_eq_true rfl) dX7_setSlant_2 ⟨Nat.le_of_ble_eq_true rfl, Nat.le_of_ble_eq_true rfl⟩ rfl (fun H locs X => ?_)
    refine lv_iload_n hx hb dX7_setSlant_5 rfl (lv_at hl 2 rfl) ?_
    refine lv_bipush (v := 50) hx hb dX7_setSlant_6 (by decide) ?_
    refine lv_sipush (v := 1000) hx hb dX7_setSlant_8 (by decide) ?_
    obtain ⟨kq4, ekq4, h0⟩ := ob_out h0
    by_cases c5 : kq4 = 0
    · have h0 := if_t c5 h0
      obtain ⟨x6, ex6, h0⟩ := ob_out h0
      have kx6 := m_X7_requireWithin l D ca z (wC ar ag ca P G ++ xs) a2 50 1000  ex6 H.size
      refine z_callS K hZ X wC_fstx wC_fstx kx6 hl.1 3 q557 q558 q87 q559 hs_X7_requireWithin ⟨⟨Nat.le_of_ble_eq_true rfl, Nat.le_of_ble_eq_true rfl⟩, rfl, rfl⟩ rfl rfl (Nat.le_of_ble_eq_true rfl) dX7_setSlant_11 ⟨Nat.le_of_ble_eq_true rfl, Nat.le_of_ble_eq_true rfl⟩ rfl (fun H locs X => ?_)
      cases h0
      exact absurd rfl hk
    · have h0 := if_f c5 h0
      cases h0
      subst hQ
      have kx := x_X7_requireWithin l D ca z hl0 (wC ar ag ca P G ++ xs) a2 50 1000 res c5 ekq4 H.size
      exact z_xcallS K hex hZ X wC_fstx hsz kx hl.1 3 q557 q558 q87 q559 hs_X7_requireWithin ⟨⟨Nat.le_of_ble_eq_true rfl, Nat.le_of_ble_eq_true rfl⟩, rfl, rfl⟩ rfl rfl (Nat.le_of_ble_eq_true rfl) dX7_setSlant_11 ⟨Nat.le_of_ble_eq_true rfl, Nat.le_of_ble_eq_true rfl⟩
  · have h0 := if_f c2 h0
    cases h0
    subst hQ
    have kx := x_X7_requireTube l D ca ar ag z hl0 P G xs a1 res c2 ekq1 H.size
    exact z_xcallV K hex hZ X wC_fstx hsz kx hl.1 1 q886 q888 q10 q87 q889 hv_X7_requireTube ⟨⟨Nat.le_of_ble_eq_true rfl, Nat.le_of_ble_eq_true rfl⟩, rfl, rfl⟩ (z_recvw K X (pl_glb (k := 0) (by decide)) rfl rfl) rfl rfl (Nat.le_of_ble_eq_true rfl) dX7_setSlant_2 ⟨Nat.le_of_ble_eq_true rfl, Nat.le_of_ble_eq_true rfl⟩
-- X7_setMark
def t_X7_setMark (P : RowsS) (G : GlbS) (a1 : Int32) : Option Nat :=
  ob (t_X7_requireTube P G a1) fun kq1 =>
  if kq1 = 0 then
    ob (f_X7_requireTube P G a1) fun x3 =>
    some 0
  else
    some kq1
abbrev rx_X7_setMark : Room := { frames := 7, cells := 1, slots := 6, locals := 104 }
set_option maxRecDepth 100000 in
set_option maxHeartbeats 4000000 in
theorem x_X7_setMark (l : Launch) (D : va_G) (ca : Nat → ClassId) (ar : Nat → Nat → Nat) (ag : Nat → Nat) (z : ZG) (hl0 : l.stackTraces = false) (P : RowsS) (G : GlbS) (xs : va_W) (a1 : Int32) (res : Nat) (hk : ¬ res = 0) (h0 : t_X7_setMark P G a1 = some res) (sz : Nat) : vx_Met l yX7_setMark (ws_ yX7_setMark cX7_setMark 4 (some .int)) rx_X7_setMark (PCz z D ca (wC ar ag ca P G ++ xs) sz [.ref (ag 0), .int a1]) QNo (XCw D (wC ar ag ca P G ++ xs) sz (eX res)) 1 6 (AL (wC ar ag ca P G ++ xs) sz) := by
  refine met_x (by decide) (Nat.le_of_ble_eq_true rfl) (fun p e s m args below meth c K hex hZ X hsz ls hl => ?_)
  have K : MC D ca p s m args meth c cX7_setMark 4 RX7 := K
  have hx := K.1
  have hb := K.2.1
  have hl : lv_has ls 4 [(0, .ref (ag 0)), (1, .int a1)] := hl
  generalize hQ : vx_MQ below _ _ args s 1 6 _ = Q
  unfold t_X7_setMark at h0
  suffices Z : ∀ (H : Heap) (locs : List Loc) (X : RW D (wC ar ag ca P G ++ xs) s.heap H locs), W p l e rx_X7_setMark s m args below meth c H locs 0 0 Q (F0 m 0 ls []) from Z _ _ X
  intro H locs X
  refine lv_aload_n hx hb dX7_setMark_0 rfl (lv_at hl 0 rfl) ?_
  refine lv_iload_n hx hb dX7_setMark_1 rfl (lv_at hl 1 rfl) ?_
  obtain ⟨kq1, ekq1, h0⟩ := ob_out h0
  by_cases c2 : kq1 = 0
  · have h0 := if_t c2 h0
    obtain ⟨x3, ex3, h0⟩ := ob_out h0
    have kx3 := m_X7_requireTube l D ca ar ag z P G xs a1  ex3 H.size
    refine z_callV K hZ X wC_fstx wC_fstx kx3 hl.1 1 q886 q888 q10 q87 q889 hv_X7_requireTube ⟨⟨Nat.le_of_ble_eq_true rfl, Nat.le_of_ble_eq_true rfl⟩, rfl, rfl⟩ (z_recvw K X (pl_glb (k := 0) (by decide)) rfl rfl) rfl rfl (Nat.le_of_ble_eq_true rfl) dX7_setMark_2 ⟨Nat.le_of_ble_eq_true rfl, Nat.le_of_ble_eq_true rfl⟩ rfl (fun H locs X => ?_)
    cases h0
    exact absurd rfl hk
  · have h0 := if_f c2 h0
    cases h0
    subst hQ
    have kx := x_X7_requireTube l D ca ar ag z hl0 P G xs a1 res c2 ekq1 H.size
    exact z_xcallV K hex hZ X wC_fstx hsz kx hl.1 1 q886 q888 q10 q87 q889 hv_X7_requireTube ⟨⟨Nat.le_of_ble_eq_true rfl, Nat.le_of_ble_eq_true rfl⟩, rfl, rfl⟩ (z_recvw K X (pl_glb (k := 0) (by decide)) rfl rfl) rfl rfl (Nat.le_of_ble_eq_true rfl) dX7_setMark_2 ⟨Nat.le_of_ble_eq_true rfl, Nat.le_of_ble_eq_true rfl⟩
-- X7_setCurve
def t_X7_setCurve (P : RowsS) (G : GlbS) (a1 : Int32) (a2 : Int32) : Option Nat :=
  ob (t_X7_requireLeg a1) fun kq1 =>
  if kq1 = 0 then
    ob (f_X7_requireLeg a1) fun x3 =>
    ob (t_X7_requireWithin a2 (-9999) 9999) fun kq4 =>
    if kq4 = 0 then
      ob (f_X7_requireWithin a2 (-9999) 9999) fun x6 =>
      some 0
    else
      some kq4
  else
    some kq1
abbrev rx_X7_setCurve : Room := { frames := 7, cells := 1, slots := 6, locals := 105 }
set_option maxRecDepth 100000 in
set_option maxHeartbeats 4000000 in
theorem x_X7_setCurve (l : Launch) (D : va_G) (ca : Nat → ClassId) (ar : Nat → Nat → Nat) (ag : Nat → Nat) (z : ZG) (hl0 : l.stackTraces = false) (P : RowsS) (G : GlbS) (xs : va_W) (a1 : Int32) (a2 : Int32) (res : Nat) (hk : ¬ res = 0) (h0 : t_X7_setCurve P G a1 a2 = some res) (sz : Nat) : vx_Met l yX7_setCurve (ws_ yX7_setCurve cX7_setCurve 3 (some .int)) rx_X7_setCurve (PCz z D ca (wC ar ag ca P G ++ xs) sz [.ref (ag 0), .int a1, .int a2]) QNo (XCw D (wC ar ag ca P G ++ xs) sz (eX res)) 1 6 (AL (wC ar ag ca P G ++ xs) sz) := by
  refine met_x (by decide) (Nat.le_of_ble_eq_true rfl) (fun p e s m args below meth c K hex hZ X hsz ls hl => ?_)
  have K : MC D ca p s m args meth c cX7_setCurve 3 RX7 := K
  have hx := K.1
  have hb := K.2.1
  have hl : lv_has ls 3 [(0, .ref (ag 0)), (1, .int a1), (2, .int a2)] := hl
  generalize hQ : vx_MQ below _ _ args s 1 6 _ = Q
  unfold t_X7_setCurve at h0
  suffices Z : ∀ (H : Heap) (locs : List Loc) (X : RW D (wC ar ag ca P G ++ xs) s.heap H locs), W p l e rx_X7_setCurve s m args below meth c H locs 0 0 Q (F0 m 0 ls []) from Z _ _ X
  intro H locs X
  refine lv_iload_n hx hb dX7_setCurve_0 rfl (lv_at hl 1 rfl) ?_
  obtain ⟨kq1, ekq1, h0⟩ := ob_out h0
  by_cases c2 : kq1 = 0
  · have h0 := if_t c2 h0
    obtain ⟨x3, ex3, h0⟩ := ob_out h0
    have kx3 := m_X7_requireLeg l D ca z (wC ar ag ca P G ++ xs) a1  ex3 H.size
    refine z_callS K hZ X wC_fstx wC_fstx kx3 hl.1 1 q864 q865 q87 q866 hs_X7_requireLeg ⟨⟨Nat.le_of_ble_eq_true rfl, Nat.le_of_ble_eq_true rfl⟩, rfl, rfl⟩ rfl rfl (Nat.le_of_ble_eq_true rfl) dX7_setCurve_1 ⟨Nat.le_of_ble_eq_true rfl, Nat.le_of_ble_eq_true rfl⟩ rfl (fun H locs X => ?_)
    refine lv_iload_n hx hb dX7_setCurve_4 rfl (lv_at hl 2 rfl) ?_
    refine lv_sipush (v := (-9999)) hx hb dX7_setCurve_5 (by decide) ?_
    refine lv_sipush (v := 9999) hx hb dX7_setCurve_8 (by decide) ?_
    obtain ⟨kq4, ekq4, h0⟩ := ob_out h0
    by_cases c5 : kq4 = 0
    · have h0 := if_t c5 h0
      obtain ⟨x6, ex6, h0⟩ := ob_out h0
      have kx6 := m_X7_requireWithin l D ca z (wC ar ag ca P G ++ xs) a2 (-9999) 9999  ex6 H.size
      refine z_callS K hZ X wC_fstx wC_fstx kx6 hl.1 3 q557 q558 q87 q559 hs_X7_requireWithin ⟨⟨Nat.le_of_ble_eq_true rfl, Nat.le_of_ble_eq_true rfl⟩, rfl, rfl⟩ rfl rfl (Nat.le_of_ble_eq_true rfl) dX7_setCurve_11 ⟨Nat.le_of_ble_eq_true rfl, Nat.le_of_ble_eq_true rfl⟩ rfl (fun H locs X => ?_)
      cases h0
      exact absurd rfl hk
    · have h0 := if_f c5 h0
      cases h0
      subst hQ
      have kx := x_X7_requireWithin l D ca z hl0 (wC ar ag ca P G ++ xs) a2 (-9999) 9999 res c5 ekq4 H.size
      exact z_xcallS K hex hZ X wC_fstx hsz kx hl.1 3 q557 q558 q87 q559 hs_X7_requireWithin ⟨⟨Nat.le_of_ble_eq_true rfl, Nat.le_of_ble_eq_true rfl⟩, rfl, rfl⟩ rfl rfl (Nat.le_of_ble_eq_true rfl) dX7_setCurve_11 ⟨Nat.le_of_ble_eq_true rfl, Nat.le_of_ble_eq_true rfl⟩
  · have h0 := if_f c2 h0
    cases h0
    subst hQ
    have kx := x_X7_requireLeg l D ca z hl0 (wC ar ag ca P G ++ xs) a1 res c2 ekq1 H.size
    exact z_xcallS K hex hZ X wC_fstx hsz kx hl.1 1 q864 q865 q87 q866 hs_X7_requireLeg ⟨⟨Nat.le_of_ble_eq_true rfl, Nat.le_of_ble_eq_true rfl⟩, rfl, rfl⟩ rfl rfl (Nat.le_of_ble_eq_true rfl) dX7_setCurve_1 ⟨Nat.le_of_ble_eq_true rfl, Nat.le_of_ble_eq_true rfl⟩
-- X7_mend
def t_X7_mend (P : RowsS) (G : GlbS) (a1 : Int32) : Option Nat :=
  ob (t_X7_requireTube P G a1) fun kq1 =>
  if kq1 = 0 then
    ob (f_X7_requireTube P G a1) fun x3 =>
    some 0
  else
    some kq1
abbrev rx_X7_mend : Room := { frames := 7, cells := 1, slots := 6, locals := 104 }
set_option maxRecDepth 100000 in
set_option maxHeartbeats 4000000 in
theorem x_X7_mend (l : Launch) (D : va_G) (ca : Nat → ClassId) (ar : Nat → Nat → Nat) (ag : Nat → Nat) (z : ZG) (hl0 : l.stackTraces = false) (P : RowsS) (G : GlbS) (xs : va_W) (a1 : Int32) (res : Nat) (hk : ¬ res = 0) (h0 : t_X7_mend P G a1 = some res) (sz : Nat) : vx_Met l yX7_mend (ws_ yX7_mend cX7_mend 3 (some .int)) rx_X7_mend (PCz z D ca (wC ar ag ca P G ++ xs) sz [.ref (ag 0), .int a1]) QNo (XCw D (wC ar ag ca P G ++ xs) sz (eX res)) 1 6 (AL (wC ar ag ca P G ++ xs) sz) := by
  refine met_x (by decide) (Nat.le_of_ble_eq_true rfl) (fun p e s m args below meth c K hex hZ X hsz ls hl => ?_)
  have K : MC D ca p s m args meth c cX7_mend 3 RX7 := K
  have hx := K.1
  have hb := K.2.1
  have hl : lv_has ls 3 [(0, .ref (ag 0)), (1, .int a1)] := hl
  generalize hQ : vx_MQ below _ _ args s 1 6 _ = Q
  unfold t_X7_mend at h0
  suffices Z : ∀ (H : Heap) (locs : List Loc) (X : RW D (wC ar ag ca P G ++ xs) s.heap H locs), W p l e rx_X7_mend s m args below meth c H locs 0 0 Q (F0 m 0 ls []) from Z _ _ X
  intro H locs X
  refine lv_aload_n hx hb dX7_mend_0 rfl (lv_at hl 0 rfl) ?_
  refine lv_iload_n hx hb dX7_mend_1 rfl (lv_at hl 1 rfl) ?_
  obtain ⟨kq1, ekq1, h0⟩ := ob_out h0
  by_cases c2 : kq1 = 0
  · have h0 := if_t c2 h0
    obtain ⟨x3, ex3, h0⟩ := ob_out h0
    have kx3 := m_X7_requireTube l D ca ar ag z P G xs a1  ex3 H.size
    refine z_callV K hZ X wC_fstx wC_fstx kx3 hl.1 1 q886 q888 q10 q87 q889 hv_X7_requireTube ⟨⟨Nat.le_of_ble_eq_true rfl, Nat.le_of_ble_eq_true rfl⟩, rfl, rfl⟩ (z_recvw K X (pl_glb (k := 0) (by decide)) rfl rfl) rfl rfl (Nat.le_of_ble_eq_true rfl) dX7_mend_2 ⟨Nat.le_of_ble_eq_true rfl, Nat.le_of_ble_eq_true rfl⟩ rfl (fun H locs X => ?_)
    cases h0
    exact absurd rfl hk
  · have h0 := if_f c2 h0
    cases h0
    subst hQ
    have kx := x_X7_requireTube l D ca ar ag z hl0 P G xs a1 res c2 ekq1 H.size
    exact z_xcallV K hex hZ X wC_fstx hsz kx hl.1 1 q886 q888 q10 q87 q889 hv_X7_requireTube ⟨⟨Nat.le_of_ble_eq_true rfl, Nat.le_of_ble_eq_true rfl⟩, rfl, rfl⟩ (z_recvw K X (pl_glb (k := 0) (by decide)) rfl rfl) rfl rfl (Nat.le_of_ble_eq_true rfl) dX7_mend_2 ⟨Nat.le_of_ble_eq_true rfl, Nat.le_of_ble_eq_true rfl⟩
-- X7_refill
def t_X7_refill (P : RowsS) (G : GlbS) (a1 : Int32) (a2 : Int32) : Option Nat :=
  ob (t_X7_requireLeg a1) fun kq1 =>
  if kq1 = 0 then
    ob (f_X7_requireLeg a1) fun x3 =>
    ob (t_X7_requireWithin a2 1 99999999) fun kq4 =>
    if kq4 = 0 then
      ob (f_X7_requireWithin a2 1 99999999) fun x6 =>
      some 0
    else
      some kq4
  else
    some kq1
abbrev rx_X7_refill : Room := { frames := 7, cells := 1, slots := 6, locals := 105 }
set_option maxRecDepth 100000 in
set_option maxHeartbeats 4000000 in
theorem x_X7_refill (l : Launch) (D : va_G) (ca : Nat → ClassId) (ar : Nat → Nat → Nat) (ag : Nat → Nat) (z : ZG) (hl0 : l.stackTraces = false) (P : RowsS) (G : GlbS) (xs : va_W) (a1 : Int32) (a2 : Int32) (res : Nat) (hk : ¬ res = 0) (h0 : t_X7_refill P G a1 a2 = some res) (sz : Nat) : vx_Met l yX7_refill (ws_ yX7_refill cX7_refill 4 (some .int)) rx_X7_refill (PCz z D ca (wC ar ag ca P G ++ xs) sz [.ref (ag 0), .int a1, .int a2]) QNo (XCw D (wC ar ag ca P G ++ xs) sz (eX res)) 1 6 (AL (wC ar ag ca P G ++ xs) sz) := by
  refine met_x (by decide) (Nat.le_of_ble_eq_true rfl) (fun p e s m args below meth c K hex hZ X hsz ls hl => ?_)
  have K : MC D ca p s m args meth c cX7_refill 4 RX7 := K
  have hx := K.1
  have hb := K.2.1
  have hl : lv_has ls 4 [(0, .ref (ag 0)), (1, .int a1), (2, .int a2)] := hl
  generalize hQ : vx_MQ below _ _ args s 1 6 _ = Q
  unfold t_X7_refill at h0
  suffices Z : ∀ (H : Heap) (locs : List Loc) (X : RW D (wC ar ag ca P G ++ xs) s.heap H locs), W p l e rx_X7_refill s m args below meth c H locs 0 0 Q (F0 m 0 ls []) from Z _ _ X
  intro H locs X
  refine lv_iload_n hx hb dX7_refill_0 rfl (lv_at hl 1 rfl) ?_
  obtain ⟨kq1, ekq1, h0⟩ := ob_out h0
  by_cases c2 : kq1 = 0
  · have h0 := if_t c2 h0
    obtain ⟨x3, ex3, h0⟩ := ob_out h0
    have kx3 := m_X7_requireLeg l D ca z (wC ar ag ca P G ++ xs) a1  ex3 H.size
    refine z_callS K hZ X wC_fstx wC_fstx kx3 hl.1 1 q864 q865 q87 q866 hs_X7_requireLeg ⟨⟨Nat.le_of_ble_eq_true rfl, Nat.le_of_ble_eq_true rfl⟩, rfl, rfl⟩ rfl rfl (Nat.le_of_ble_eq_true rfl) dX7_refill_1 ⟨Nat.le_of_ble_eq_true rfl, Nat.le_of_ble_eq_true rfl⟩ rfl (fun H locs X => ?_)
    refine lv_iload_n hx hb dX7_refill_4 rfl (lv_at hl 2 rfl) ?_
    refine lv_iconst (v := 1) hx hb dX7_refill_5 (by decide) ?_
    refine lv_ldc hx hb K.2.2.2.1 (K.2.2.2.2.1 _ q1041) dX7_refill_6 ?_
    obtain ⟨kq4, ekq4, h0⟩ := ob_out h0
    by_cases c5 : kq4 = 0
    · have h0 := if_t c5 h0
      obtain ⟨x6, ex6, h0⟩ := ob_out h0
      have kx6 := m_X7_requireWithin l D ca z (wC ar ag ca P G ++ xs) a2 1 99999999  ex6 H.size
      refine z_callS K hZ X wC_fstx wC_fstx kx6 hl.1 3 q557 q558 q87 q559 hs_X7_requireWithin ⟨⟨Nat.le_of_ble_eq_true rfl, Nat.le_of_ble_eq_true rfl⟩, rfl, rfl⟩ rfl rfl (Nat.le_of_ble_eq_true rfl) dX7_refill_8 ⟨Nat.le_of_ble_eq_true rfl, Nat.le_of_ble_eq_true rfl⟩ rfl (fun H locs X => ?_)
      cases h0
      exact absurd rfl hk
    · have h0 := if_f c5 h0
      cases h0
      subst hQ
      have kx := x_X7_requireWithin l D ca z hl0 (wC ar ag ca P G ++ xs) a2 1 99999999 res c5 ekq4 H.size
      exact z_xcallS K hex hZ X wC_fstx hsz kx hl.1 3 q557 q558 q87 q559 hs_X7_requireWithin ⟨⟨Nat.le_of_ble_eq_true rfl, Nat.le_of_ble_eq_true rfl⟩, rfl, rfl⟩ rfl rfl (Nat.le_of_ble_eq_true rfl) dX7_refill_8 ⟨Nat.le_of_ble_eq_true rfl, Nat.le_of_ble_eq_true rfl⟩
  · have h0 := if_f c2 h0
    cases h0
    subst hQ
    have kx := x_X7_requireLeg l D ca z hl0 (wC ar ag ca P G ++ xs) a1 res c2 ekq1 H.size
    exact z_xcallS K hex hZ X wC_fstx hsz kx hl.1 1 q864 q865 q87 q866 hs_X7_requireLeg ⟨⟨Nat.le_of_ble_eq_true rfl, Nat.le_of_ble_eq_true rfl⟩, rfl, rfl⟩ rfl rfl (Nat.le_of_ble_eq_true rfl) dX7_refill_1 ⟨Nat.le_of_ble_eq_true rfl, Nat.le_of_ble_eq_true rfl⟩
-- X7_addTube
def t_X7_addTube (P : RowsS) (G : GlbS) (a1 : Int32) (a2 : Int32) (a3 : Int32) (a4 : Int32) (a5 : Int32) : Option Nat :=
  ob (t_X7_requireLeg a1) fun kq1 =>
  if kq1 = 0 then
    ob (f_X7_requireLeg a1) fun x3 =>
    ob (t_X7_requirePoint P G a2) fun kq4 =>
    if kq4 = 0 then
      ob (f_X7_requirePoint P G a2) fun x6 =>
      ob (t_X7_requireWithin a3 1 20) fun kq7 =>
      if kq7 = 0 then
        ob (f_X7_requireWithin a3 1 20) fun x9 =>
        ob (t_X7_requireWithin a4 50 1000) fun kq10 =>
        if kq10 = 0 then
          ob (f_X7_requireWithin a4 50 1000) fun x12 =>
          ob (t_X7_requireWithin a5 10 2000) fun kq13 =>
          if kq13 = 0 then
            ob (f_X7_requireWithin a5 10 2000) fun x15 =>
            some 0
          else
            some kq13
        else
          some kq10
      else
        some kq7
    else
      some kq4
  else
    some kq1
abbrev rx_X7_addTube : Room := { frames := 7, cells := 1, slots := 6, locals := 105 }
set_option maxRecDepth 100000 in
set_option maxHeartbeats 4000000 in
theorem x_X7_addTube (l : Launch) (D : va_G) (ca : Nat → ClassId) (ar : Nat → Nat → Nat) (ag : Nat → Nat) (z : ZG) (hl0 : l.stackTraces = false) (P : RowsS) (G : GlbS) (xs : va_W) (a1 : Int32) (a2 : Int32) (a3 : Int32) (a4 : Int32) (a5 : Int32) (res : Nat) (hk : ¬ res = 0) (h0 : t_X7_addTube P G a1 a2 a3 a4 a5 = some res) (sz : Nat) : vx_Met l yX7_addTube (ws_ yX7_addTube cX7_addTube 7 (some .int)) rx_X7_addTube (PCz z D ca (wC ar ag ca P G ++ xs) sz [.ref (ag 0), .int a1, .int a2, .int a3, .int a4, .int a5]) QNo (XCw D (wC ar ag ca P G ++ xs) sz (eX res)) 1 6 (AL (wC ar ag ca P G ++ xs) sz) := by
  refine met_x (by decide) (Nat.le_of_ble_eq_true rfl) (fun p e s m args below meth c K hex hZ X hsz ls hl => ?_)
  have K : MC D ca p s m args meth c cX7_addTube 7 RX7 := K
  have hx := K.1
  have hb := K.2.1
  have hl : lv_has ls 7 [(0, .ref (ag 0)), (1, .int a1), (2, .int a2), (3, .int a3), (4, .int a4), (5, .int a5)] := hl
  generalize hQ : vx_MQ below _ _ args s 1 6 _ = Q
  unfold t_X7_addTube at h0
  suffices Z : ∀ (H : Heap) (locs : List Loc) (X : RW D (wC ar ag ca P G ++ xs) s.heap H locs), W p l e rx_X7_addTube s m args below meth c H locs 0 0 Q (F0 m 0 ls []) from Z _ _ X
  intro H locs X
  refine lv_iload_n hx hb dX7_addTube_0 rfl (lv_at hl 1 rfl) ?_
  obtain ⟨kq1, ekq1, h0⟩ := ob_out h0
  by_cases c2 : kq1 = 0
  · have h0 := if_t c2 h0
    obtain ⟨x3, ex3, h0⟩ := ob_out h0
    have kx3 := m_X7_requireLeg l D ca z (wC ar ag ca P G ++ xs) a1  ex3 H.size
    refine z_callS K hZ X wC_fstx wC_fstx kx3 hl.1 1 q864 q865 q87 q866 hs_X7_requireLeg ⟨⟨Nat.le_of_ble_eq_true rfl, Nat.le_of_ble_eq_true rfl⟩, rfl, rfl⟩ rfl rfl (Nat.le_of_ble_eq_true rfl) dX7_addTube_1 ⟨Nat.le_of_ble_eq_true rfl, Nat.le_of_ble_eq_true rfl⟩ rfl (fun H locs X => ?_)
    refine lv_aload_n hx hb dX7_addTube_4 rfl (lv_at hl 0 rfl) ?_
    refine lv_iload_n hx hb dX7_addTube_5 rfl (lv_at hl 2 rfl) ?_
    obtain ⟨kq4, ekq4, h0⟩ := ob_out h0
    by_cases c5 : kq4 = 0
    · have h0 := if_t c5 h0
      obtain ⟨x6, ex6, h0⟩ := ob_out h0
      have kx6 := m_X7_requirePoint l D ca ar ag z P G xs a2  ex6 H.size
      refine z_callV K hZ X wC_fstx wC_fstx kx6 hl.1 1 q851 q853 q9 q87 q854 hv_X7_requirePoint ⟨⟨Nat.le_of_ble_eq_true rfl, Nat.le_of_ble_eq_true rfl⟩, rfl, rfl⟩ (z_recvw K X (pl_glb (k := 0) (by decide)) rfl rfl) rfl rfl (Nat.le_of_ble_eq_true rfl) dX7_addTube_6 ⟨Nat.le_of_ble_eq_true rfl, Nat.le_of_ble_eq_true rfl⟩ rfl (fun H locs X => ?_)
      refine lv_iload_n hx hb dX7_addTube_9 rfl (lv_at hl 3 rfl) ?_
      refine lv_iconst (v := 1) hx hb dX7_addTube_10 (by decide) ?_
      refine lv_bipush (v := 20) hx hb dX7_addTube_11 (by decide) ?_
      obtain ⟨kq7, ekq7, h0⟩ := ob_out h0
      by_cases c8 : kq7 = 0
      · have h0 := if_t c8 h0
        obtain ⟨x9, ex9, h0⟩ := ob_out h0
        have kx9 := m_X7_requireWithin l D ca z (wC ar ag ca P G ++ xs) a3 1 20  ex9 H.size
        refine z_callS K hZ X wC_fstx wC_fstx kx9 hl.1 3 q557 q558 q87 q559 hs_X7_requireWithin ⟨⟨Nat.le_of_ble_eq_true rfl, Nat.le_of_ble_eq_true rfl⟩, rfl, rfl⟩ rfl rfl (Nat.le_of_ble_eq_true rfl) dX7_addTube_13 ⟨Nat.le_of_ble_eq_true rfl, Nat.le_of_ble_eq_true rfl⟩ rfl (fun H locs X => ?_)
        refine lv_iload hx hb dX7_addTube_16 (lv_at hl 4 rfl) ?_
        refine lv_bipush (v := 50) hx hb dX7_addTube_18 (by decide) ?_
        refine lv_sipush (v := 1000) hx hb dX7_addTube_20 (by decide) ?_
        obtain ⟨kq10, ekq10, h0⟩ := ob_out h0
        by_cases c11 : kq10 = 0
        · have h0 := if_t c11 h0
          obtain ⟨x12, ex12, h0⟩ := ob_out h0
          have kx12 := m_X7_requireWithin l D ca z (wC ar ag ca P G ++ xs) a4 50 1000  ex12 H.size
          refine z_callS K hZ X wC_fstx wC_fstx kx12 hl.1 3 q557 q558 q87 q559 hs_X7_requireWithin ⟨⟨Nat.le_of_ble_eq_true rfl, Nat.le_of_ble_eq_true rfl⟩, rfl, rfl⟩ rfl rfl (Nat.le_of_ble_eq_true rfl) dX7_addTube_23 ⟨Nat.le_of_ble_eq_true rfl, Nat.le_of_ble_eq_true rfl⟩ rfl (fun H locs X => ?_)
          refine lv_iload hx hb dX7_addTube_26 (lv_at hl 5 rfl) ?_
          refine lv_bipush (v := 10) hx hb dX7_addTube_28 (by decide) ?_
          refine lv_sipush (v := 2000) hx hb dX7_addTube_30 (by decide) ?_
          obtain ⟨kq13, ekq13, h0⟩ := ob_out h0
          by_cases c14 : kq13 = 0
          · have h0 := if_t c14 h0
            obtain ⟨x15, ex15, h0⟩ := ob_out h0
            have kx15 := m_X7_requireWithin l D ca z (wC ar ag ca P G ++ xs) a5 10 2000  ex15 H.size
            refine z_callS K hZ X wC_fstx wC_fstx kx15 hl.1 3 q557 q558 q87 q559 hs_X7_requireWithin ⟨⟨Nat.le_of_ble_eq_true rfl, Nat.le_of_ble_eq_true rfl⟩, rfl, rfl⟩ rfl rfl (Nat.le_of_ble_eq_true rfl) dX7_addTube_33 ⟨Nat.le_of_ble_eq_true rfl, Nat.le_of_ble_eq_true rfl⟩ rfl (fun H locs X => ?_)
            cases h0
            exact absurd rfl hk
          · have h0 := if_f c14 h0
            cases h0
            subst hQ
            have kx := x_X7_requireWithin l D ca z hl0 (wC ar ag ca P G ++ xs) a5 10 2000 res c14 ekq13 H.size
            exact z_xcallS K hex hZ X wC_fstx hsz kx hl.1 3 q557 q558 q87 q559 hs_X7_requireWithin ⟨⟨Nat.le_of_ble_eq_true rfl, Nat.le_of_ble_eq_true rfl⟩, rfl, rfl⟩ rfl rfl (Nat.le_of_ble_eq_true rfl) dX7_addTube_33 ⟨Nat.le_of_ble_eq_true rfl, Nat.le_of_ble_eq_true rfl⟩
        · have h0 := if_f c11 h0
          cases h0
          subst hQ
          have kx := x_X7_requireWithin l D ca z hl0 (wC ar ag ca P G ++ xs) a4 50 1000 res c11 ekq10 H.size
          exact z_xcallS K hex hZ X wC_fstx hsz kx hl.1 3 q557 q558 q87 q559 hs_X7_requireWithin ⟨⟨Nat.le_of_ble_eq_true rfl, Nat.le_of_ble_eq_true rfl⟩, rfl, rfl⟩ rfl rfl (Nat.le_of_ble_eq_true rfl) dX7_addTube_23 ⟨Nat.le_of_ble_eq_true rfl, Nat.le_of_ble_eq_true rfl⟩
      · have h0 := if_f c8 h0
        cases h0
        subst hQ
        have kx := x_X7_requireWithin l D ca z hl0 (wC ar ag ca P G ++ xs) a3 1 20 res c8 ekq7 H.size
        exact z_xcallS K hex hZ X wC_fstx hsz kx hl.1 3 q557 q558 q87 q559 hs_X7_requireWithin ⟨⟨Nat.le_of_ble_eq_true rfl, Nat.le_of_ble_eq_true rfl⟩, rfl, rfl⟩ rfl rfl (Nat.le_of_ble_eq_true rfl) dX7_addTube_13 ⟨Nat.le_of_ble_eq_true rfl, Nat.le_of_ble_eq_true rfl⟩
    · have h0 := if_f c5 h0
      cases h0
      subst hQ
      have kx := x_X7_requirePoint l D ca ar ag z hl0 P G xs a2 res c5 ekq4 H.size
      exact z_xcallV K hex hZ X wC_fstx hsz kx hl.1 1 q851 q853 q9 q87 q854 hv_X7_requirePoint ⟨⟨Nat.le_of_ble_eq_true rfl, Nat.le_of_ble_eq_true rfl⟩, rfl, rfl⟩ (z_recvw K X (pl_glb (k := 0) (by decide)) rfl rfl) rfl rfl (Nat.le_of_ble_eq_true rfl) dX7_addTube_6 ⟨Nat.le_of_ble_eq_true rfl, Nat.le_of_ble_eq_true rfl⟩
  · have h0 := if_f c2 h0
    cases h0
    subst hQ
    have kx := x_X7_requireLeg l D ca z hl0 (wC ar ag ca P G ++ xs) a1 res c2 ekq1 H.size
    exact z_xcallS K hex hZ X wC_fstx hsz kx hl.1 1 q864 q865 q87 q866 hs_X7_requireLeg ⟨⟨Nat.le_of_ble_eq_true rfl, Nat.le_of_ble_eq_true rfl⟩, rfl, rfl⟩ rfl rfl (Nat.le_of_ble_eq_true rfl) dX7_addTube_1 ⟨Nat.le_of_ble_eq_true rfl, Nat.le_of_ble_eq_true rfl⟩
-- X7_dropTube
def t_X7_dropTube (P : RowsS) (G : GlbS) (a1 : Int32) : Option Nat :=
  ob (t_X7_requireTube P G a1) fun kq1 =>
  if kq1 = 0 then
    ob (f_X7_requireTube P G a1) fun x3 =>
    some 0
  else
    some kq1
abbrev rx_X7_dropTube : Room := { frames := 7, cells := 1, slots := 6, locals := 104 }
set_option maxRecDepth 100000 in
set_option maxHeartbeats 4000000 in
theorem x_X7_dropTube (l : Launch) (D : va_G) (ca : Nat → ClassId) (ar : Nat → Nat → Nat) (ag : Nat → Nat) (z : ZG) (hl0 : l.stackTraces = false) (P : RowsS) (G : GlbS) (xs : va_W) (a1 : Int32) (res : Nat) (hk : ¬ res = 0) (h0 : t_X7_dropTube P G a1 = some res) (sz : Nat) : vx_Met l yX7_dropTube (ws_ yX7_dropTube cX7_dropTube 2 (some .int)) rx_X7_dropTube (PCz z D ca (wC ar ag ca P G ++ xs) sz [.ref (ag 0), .int a1]) QNo (XCw D (wC ar ag ca P G ++ xs) sz (eX res)) 1 6 (AL (wC ar ag ca P G ++ xs) sz) := by
  refine met_x (by decide) (Nat.le_of_ble_eq_true rfl) (fun p e s m args below meth c K hex hZ X hsz ls hl => ?_)
  have K : MC D ca p s m args meth c cX7_dropTube 2 RX7 := K
  have hx := K.1
  have hb := K.2.1
  have hl : lv_has ls 2 [(0, .ref (ag 0)), (1, .int a1)] := hl
  generalize hQ : vx_MQ below _ _ args s 1 6 _ = Q
  unfold t_X7_dropTube at h0
  suffices Z : ∀ (H : Heap) (locs : List Loc) (X : RW D (wC ar ag ca P G ++ xs) s.heap H locs), W p l e rx_X7_dropTube s m args below meth c H locs 0 0 Q (F0 m 0 ls []) from Z _ _ X
  intro H locs X
  refine lv_aload_n hx hb dX7_dropTube_0 rfl (lv_at hl 0 rfl) ?_
  refine lv_iload_n hx hb dX7_dropTube_1 rfl (lv_at hl 1 rfl) ?_
  obtain ⟨kq1, ekq1, h0⟩ := ob_out h0
  by_cases c2 : kq1 = 0
  · have h0 := if_t c2 h0
    obtain ⟨x3, ex3, h0⟩ := ob_out h0
    have kx3 := m_X7_requireTube l D ca ar ag z P G xs a1  ex3 H.size
    refine z_callV K hZ X wC_fstx wC_fstx kx3 hl.1 1 q886 q888 q10 q87 q889 hv_X7_requireTube ⟨⟨Nat.le_of_ble_eq_true rfl, Nat.le_of_ble_eq_true rfl⟩, rfl, rfl⟩ (z_recvw K X (pl_glb (k := 0) (by decide)) rfl rfl) rfl rfl (Nat.le_of_ble_eq_true rfl) dX7_dropTube_2 ⟨Nat.le_of_ble_eq_true rfl, Nat.le_of_ble_eq_true rfl⟩ rfl (fun H locs X => ?_)
    cases h0
    exact absurd rfl hk
  · have h0 := if_f c2 h0
    cases h0
    subst hQ
    have kx := x_X7_requireTube l D ca ar ag z hl0 P G xs a1 res c2 ekq1 H.size
    exact z_xcallV K hex hZ X wC_fstx hsz kx hl.1 1 q886 q888 q10 q87 q889 hv_X7_requireTube ⟨⟨Nat.le_of_ble_eq_true rfl, Nat.le_of_ble_eq_true rfl⟩, rfl, rfl⟩ (z_recvw K X (pl_glb (k := 0) (by decide)) rfl rfl) rfl rfl (Nat.le_of_ble_eq_true rfl) dX7_dropTube_2 ⟨Nat.le_of_ble_eq_true rfl, Nat.le_of_ble_eq_true rfl⟩
-- X7_format
def t_X7_format (P : RowsS) (G : GlbS) (a1 : Int32) : Option Nat :=
  ob (t_X7_requireTube P G a1) fun kq1 =>
  if kq1 = 0 then
    ob (f_X7_requireTube P G a1) fun x3 =>
    some 0
  else
    some kq1
abbrev rx_X7_format : Room := { frames := 7, cells := 1, slots := 6, locals := 104 }
set_option maxRecDepth 100000 in
set_option maxHeartbeats 4000000 in
theorem x_X7_format (l : Launch) (D : va_G) (ca : Nat → ClassId) (ar : Nat → Nat → Nat) (ag : Nat → Nat) (z : ZG) (hl0 : l.stackTraces = false) (P : RowsS) (G : GlbS) (xs : va_W) (a1 : Int32) (res : Nat) (hk : ¬ res = 0) (h0 : t_X7_format P G a1 = some res) (sz : Nat) : vx_Met l yX7_format (ws_ yX7_format cX7_format 3 (some .int)) rx_X7_format (PCz z D ca (wC ar ag ca P G ++ xs) sz [.ref (ag 0), .int a1]) QNo (XCw D (wC ar ag ca P G ++ xs) sz (eX res)) 1 6 (AL (wC ar ag ca P G ++ xs) sz) := by
  refine met_x (by decide) (Nat.le_of_ble_eq_true rfl) (fun p e s m args below meth c K hex hZ X hsz ls hl => ?_)
  have K : MC D ca p s m args meth c cX7_format 3 RX7 := K
  have hx := K.1
  have hb := K.2.1
  have hl : lv_has ls 3 [(0, .ref (ag 0)), (1, .int a1)] := hl
  generalize hQ : vx_MQ below _ _ args s 1 6 _ = Q
  unfold t_X7_format at h0
  suffices Z : ∀ (H : Heap) (locs : List Loc) (X : RW D (wC ar ag ca P G ++ xs) s.heap H locs), W p l e rx_X7_format s m args below meth c H locs 0 0 Q (F0 m 0 ls []) from Z _ _ X
  intro H locs X
  refine lv_aload_n hx hb dX7_format_0 rfl (lv_at hl 0 rfl) ?_
  refine lv_iload_n hx hb dX7_format_1 rfl (lv_at hl 1 rfl) ?_
  obtain ⟨kq1, ekq1, h0⟩ := ob_out h0
  by_cases c2 : kq1 = 0
  · have h0 := if_t c2 h0
    obtain ⟨x3, ex3, h0⟩ := ob_out h0
    have kx3 := m_X7_requireTube l D ca ar ag z P G xs a1  ex3 H.size
    refine z_callV K hZ X wC_fstx wC_fstx kx3 hl.1 1 q886 q888 q10 q87 q889 hv_X7_requireTube ⟨⟨Nat.le_of_ble_eq_true rfl, Nat.le_of_ble_eq_true rfl⟩, rfl, rfl⟩ (z_recvw K X (pl_glb (k := 0) (by decide)) rfl rfl) rfl rfl (Nat.le_of_ble_eq_true rfl) dX7_format_2 ⟨Nat.le_of_ble_eq_true rfl, Nat.le_of_ble_eq_true rfl⟩ rfl (fun H locs X => ?_)
    cases h0
    exact absurd rfl hk
  · have h0 := if_f c2 h0
    cases h0
    subst hQ
    have kx := x_X7_requireTube l D ca ar ag z hl0 P G xs a1 res c2 ekq1 H.size
    exact z_xcallV K hex hZ X wC_fstx hsz kx hl.1 1 q886 q888 q10 q87 q889 hv_X7_requireTube ⟨⟨Nat.le_of_ble_eq_true rfl, Nat.le_of_ble_eq_true rfl⟩, rfl, rfl⟩ (z_recvw K X (pl_glb (k := 0) (by decide)) rfl rfl) rfl rfl (Nat.le_of_ble_eq_true rfl) dX7_format_2 ⟨Nat.le_of_ble_eq_true rfl, Nat.le_of_ble_eq_true rfl⟩
-- X7_query
def t_X7_query (P : RowsS) (G : GlbS) (a1 : Int32) : Option Nat :=
  ob (t_X7_requireWithin a1 0 (jmin 200 (G 3 1))) fun kq1 =>
  if kq1 = 0 then
    ob (f_X7_requireWithin a1 0 (jmin 200 (G 3 1))) fun x3 =>
    some 0
  else
    some kq1
abbrev rx_X7_query : Room := { frames := 7, cells := 1, slots := 6, locals := 105 }
set_option maxRecDepth 100000 in
set_option maxHeartbeats 4000000 in
theorem x_X7_query (l : Launch) (D : va_G) (ca : Nat → ClassId) (ar : Nat → Nat → Nat) (ag : Nat → Nat) (z : ZG) (hl0 : l.stackTraces = false) (P : RowsS) (G : GlbS) (xs : va_W) (a1 : Int32) (res : Nat) (hk : ¬ res = 0) (h0 : t_X7_query P G a1 = some res) (sz : Nat) : vx_Met l yX7_query (ws_ yX7_query cX7_query 5 (some .int)) rx_X7_query (PCz z D ca (wC ar ag ca P G ++ xs) sz [.ref (ag 0), .int a1]) QNo (XCw D (wC ar ag ca P G ++ xs) sz (eX res)) 1 6 (AL (wC ar ag ca P G ++ xs) sz) := by
  refine met_x (by decide) (Nat.le_of_ble_eq_true rfl) (fun p e s m args below meth c K hex hZ X hsz ls hl => ?_)
  have K : MC D ca p s m args meth c cX7_query 5 RX7 := K
  have hx := K.1
  have hb := K.2.1
  have hl : lv_has ls 5 [(0, .ref (ag 0)), (1, .int a1)] := hl
  generalize hQ : vx_MQ below _ _ args s 1 6 _ = Q
  unfold t_X7_query at h0
  suffices Z : ∀ (H : Heap) (locs : List Loc) (X : RW D (wC ar ag ca P G ++ xs) s.heap H locs), W p l e rx_X7_query s m args below meth c H locs 0 0 Q (F0 m 0 ls []) from Z _ _ X
  intro H locs X
  refine lv_iload_n hx hb dX7_query_0 rfl (lv_at hl 1 rfl) ?_
  refine lv_iconst (v := 0) hx hb dX7_query_1 (by decide) ?_
  refine lv_sipush (v := 200) hx hb dX7_query_2 (by decide) ?_
  refine lv_aload_n hx hb dX7_query_5 rfl (lv_at hl 0 rfl) ?_
  refine g_objr K X 4 (by decide) rfl q365 dX7_query_6 ?_
  refine g_toki K X 1 (by decide) q283 dX7_query_9 ?_
  refine w_mmin K hl.1 q936 q479 q102 q480 (Nat.le_of_ble_eq_true rfl) (Nat.le_of_ble_eq_true rfl) (Nat.le_of_ble_eq_true rfl) (Nat.le_of_ble_eq_true rfl) dX7_query_12 ?_
  obtain ⟨kq1, ekq1, h0⟩ := ob_out h0
  by_cases c2 : kq1 = 0
  · have h0 := if_t c2 h0
    obtain ⟨x3, ex3, h0⟩ := ob_out h0
    have kx3 := m_X7_requireWithin l D ca z (wC ar ag ca P G ++ xs) a1 0 (jmin 200 (G 3 1))  ex3 H.size
    refine z_callS K hZ X wC_fstx wC_fstx kx3 hl.1 3 q557 q558 q87 q559 hs_X7_requireWithin ⟨⟨Nat.le_of_ble_eq_true rfl, Nat.le_of_ble_eq_true rfl⟩, rfl, rfl⟩ rfl rfl (Nat.le_of_ble_eq_true rfl) dX7_query_15 ⟨Nat.le_of_ble_eq_true rfl, Nat.le_of_ble_eq_true rfl⟩ rfl (fun H locs X => ?_)
    cases h0
    exact absurd rfl hk
  · have h0 := if_f c2 h0
    cases h0
    subst hQ
    have kx := x_X7_requireWithin l D ca z hl0 (wC ar ag ca P G ++ xs) a1 0 (jmin 200 (G 3 1)) res c2 ekq1 H.size
    exact z_xcallS K hex hZ X wC_fstx hsz kx hl.1 3 q557 q558 q87 q559 hs_X7_requireWithin ⟨⟨Nat.le_of_ble_eq_true rfl, Nat.le_of_ble_eq_true rfl⟩, rfl, rfl⟩ rfl rfl (Nat.le_of_ble_eq_true rfl) dX7_query_15 ⟨Nat.le_of_ble_eq_true rfl, Nat.le_of_ble_eq_true rfl⟩
