def isI (n : Nat) (x : Int32) : Bool := decide (0 ≤ x.toInt) && decide (x.toInt < n)
set_option maxHeartbeats 4000000 in
set_option maxRecDepth 100000 in
theorem c_X0_open {l : Launch} {D : va_G} {c : Nat → ClassId} {a : Nat → Nat} {μ : Me} {w m : Nat} (hm : μ 0 1 = nI m) : KI l D (tyE c) (xw c a) yX0_open cX0_open 2 .int (rmL 1) [.ref (a 1), .int (nI w)] μ (fun r u => r = nI (nd w m) ∧ u = μ) := by
  refine x_enterI (by decide) (Nat.le_of_ble_eq_true rfl) (fun F hl hD hn hRm hC hR => ?_)
  subst hl hD
  change XW F 0 0 (xw c a μ) [(0, .ref (a 1)), (1, .int (nI w))] 0 []
  change FC F cX0_open RX0 (tyE c) at hC
  refine x_iload_n hC 1 rfl dX0_open_0 ?_
  refine x_aload_n hC 0 rfl dX0_open_1 ?_
  refine x_get hC fl_X0_15 dX0_open_2 1 rfl (v := .int (nI m)) (xv hm) ?_
  refine x_iconst hC (v := (zI (-1))) dX0_open_5 rfl ?_
  refine x_ixorE hC (rfl : _ = (nI m ^^^ (-1))) dX0_open_6 ?_
  refine x_iandE hC (nI_andc _ _ : _ = (nI (nd w m))) dX0_open_7 ?_
  exact x_iret hC hR dX0_open_8 (⟨rfl, rfl⟩)
set_option maxHeartbeats 4000000 in
set_option maxRecDepth 100000 in
theorem c_X0_isCell {l : Launch} {D : va_G} {c : Nat → ClassId} {a : Nat → Nat} {μ : Me} {x : Int32} {n : Nat} (hn0 : μ 0 0 = nI n) (hb : n < 2 ^ 31) : KI l D (tyE c) (xw c a) yX0_isCell cX0_isCell 2 .boolean (rmL 1) [.ref (a 1), .int x] μ (fun r u => r = bz (isI n x) ∧ u = μ) := by
  refine x_enterI (by decide) (Nat.le_of_ble_eq_true rfl) (fun F hl hD hn hRm hC hR => ?_)
  subst hl hD
  change XW F 0 0 (xw c a μ) [(0, .ref (a 1)), (1, .int x)] 0 []
  change FC F cX0_isCell RX0 (tyE c) at hC
  refine x_iload_n hC 1 rfl dX0_isCell_0 ?_
  refine x_if_lt hC 16 dX0_isCell_1 rfl (fun h1 => ?_) (fun h1 => ?_)
  · -- 1 T
    refine x_iconst hC (v := (nI 0)) dX0_isCell_16 rfl ?_
    exact x_zret hC hR dX0_isCell_17 rfl (⟨by simp_all [isI], rfl⟩)
  · -- 1 F
    refine x_iload_n hC 1 rfl dX0_isCell_4 ?_
    refine x_aload_n hC 0 rfl dX0_isCell_5 ?_
    refine x_get hC fl_X0_9 dX0_isCell_6 1 rfl (v := .int (nI n)) (xv hn0) ?_
    refine x_icmp_ge hC 16 dX0_isCell_9 rfl (fun h9 => ?_) (fun h9 => ?_)
    · -- 9 T
      refine x_iconst hC (v := (nI 0)) dX0_isCell_16 rfl ?_
      exact x_zret hC hR dX0_isCell_17 rfl (⟨by simp_all [isI], rfl⟩)
    · -- 9 F
      refine x_iconst hC (v := (nI 1)) dX0_isCell_12 rfl ?_
      refine x_goto hC 17 dX0_isCell_13 rfl ?_
      exact x_zret hC hR dX0_isCell_17 rfl (⟨by simp_all [isI], rfl⟩)
set_option maxHeartbeats 4000000 in
set_option maxRecDepth 100000 in
theorem c_X0_openSet {l : Launch} {D : va_G} {c : Nat → ClassId} {a : Nat → Nat} {μ : Me} {n m : Nat} (hn0 : μ 0 0 = nI n) (hm : μ 0 1 = nI m) (hb : n < 31) : KI l D (tyE c) (xw c a) yX0_openSet cX0_openSet 1 .int (rmL 2) [.ref (a 1)] μ (fun r u => r = nI (nd (2 ^ n - 1) m) ∧ u = μ) := by
  refine x_enterI (by decide) (Nat.le_of_ble_eq_true rfl) (fun F hl hD hn hRm hC hR => ?_)
  subst hl hD
  change XW F 0 0 (xw c a μ) [(0, .ref (a 1))] 0 []
  change FC F cX0_openSet RX0 (tyE c) at hC
  refine x_aload_n hC 0 rfl dX0_openSet_0 ?_
  refine x_iconst hC (v := (nI 1)) dX0_openSet_1 rfl ?_
  refine x_aload_n hC 0 rfl dX0_openSet_2 ?_
  refine x_get hC fl_X0_9 dX0_openSet_3 1 rfl (v := .int (nI n)) (xv hn0) ?_
  refine x_ishlE hC (nI_shl1 (by omega) : _ = (nI (2 ^ n))) dX0_openSet_6 ?_
  refine x_iconst hC (v := (nI 1)) dX0_openSet_7 rfl ?_
  refine x_isubE hC (pk_sub (Nat.one_le_two_pow) : _ = (nI ((2 ^ n) - 1))) dX0_openSet_8 ?_
  refine x_callVI hC cw_X0_23 (c_X0_open (w := ((2 ^ n) - 1)) (m := m) (by first | assumption | omega)) dX0_openSet_9 [] rfl (Nat.le_of_ble_eq_true rfl) rfl (rm_ok hRm (by decide) (by decide)) 0 1 rfl rfl (fun r9 m9 hp9 => ?_)
  obtain ⟨rfl, rfl⟩ := hp9
  exact x_iret hC hR dX0_openSet_12 (⟨rfl, rfl⟩)
