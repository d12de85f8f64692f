theorem told_at {μ : Me} {S : SS} {t c : Nat} (h : XI μ S) (ht : t < 3) (hc : c < 14) : μ (8 + t) c = nI (S (2 + t) c) := by
  rcases (show t = 0 ∨ t = 1 ∨ t = 2 by omega) with rfl | rfl | rfl
  · exact h.ch c hc
  · exact h.we c hc
  · exact h.le c hc
theorem lkx_lt (p : Nat → Nat) (most : Nat) : ∀ n : Nat, lkx p most n < 2 ^ n
  | 0 => Nat.zero_lt_one
  | n + 1 => by
    have h := lkx_lt p most n
    have h2 : 2 ^ n < 2 ^ (n + 1) := Nat.pow_lt_pow_right (by decide) (by omega)
    simp only [lkx]
    split
    · exact Nat.or_lt_two_pow (by omega) h2
    · omega
theorem mend_eq (S : SS) (w : Nat) : mend S w = amin (fun j => pc (cw S j ^^^ nd w (S 0 1))) (2 ^ S 0 2) := amin_congr (fun i _ => by unfold dk; rw [Nat.xor_comm])
theorem clr_eq (S : SS) (w : Nat) : clr S w = uq (fun j => pc (cw S j ^^^ nd w (S 0 1))) (2 ^ S 0 2) := by
  unfold clr
  congr 1
  funext j
  unfold dk
  rw [Nat.xor_comm]
theorem bz_simp (b : Bool) : (b = true → bz b = nI 1) ∧ (b = false → bz b = nI 0) := by cases b <;> exact ⟨by decide, by decide⟩
theorem nI1_bz : nI 1 = bz true := rfl
theorem nI0_bz : nI 0 = bz false := rfl
theorem mend_help {S : SS} (hV : SV S) {c v : Nat} (hc : c < S 0 3) (hh : S 6 c = 1) : mend S (v ^^^ S 7 c) = amin (fun j => pc (cw S j ^^^ (nd v (S 0 1) ^^^ S 7 c))) (2 ^ S 0 2) := by
  rw [mend_eq, nd_xor, nd_self ((hV.chip c hc).2.2 hh).2.1]

set_option maxHeartbeats 4000000 in
set_option maxRecDepth 100000 in
theorem c_X5_refuse {l : Launch} {D : va_G} {c : Nat → ClassId} {a : Nat → Nat} {μ : Me} {z : Int} {j v : Nat} (hz : z = -(j : Int)) (hj : 1 ≤ j ∧ j ≤ 6) (h6 : μ 6 j = nI v) : KI l D (tyE c) (xw c a) yX5_refuse cX5_refuse 2 .int (rmL 1) [.ref (a 0), .int (zI z)] μ (fun r u => r = zI z ∧ u = up μ 6 j (nI (v + 1))) := by
  refine x_enterI (by decide) (Nat.le_of_ble_eq_true rfl) (fun F hl hD hn hRm hC hR => ?_)
  subst hl hD
  change XW F 0 0 (xw c a μ) [(0, .ref (a 0)), (1, .int (zI z))] 0 []
  change FC F cX5_refuse RX5 (tyE c) at hC
  refine x_iload_n hC 1 rfl dX5_refuse_0 ?_
  refine x_if_geZ hC (a := z) 25 dX5_refuse_1 rfl (by omega) (fun h1 => ?_) (fun h1 => ?_)
  · -- 1 T
    exact absurd h1 (by omega)
  · -- 1 F
    refine x_iload_n hC 1 rfl dX5_refuse_4 ?_
    refine x_aload_n hC 0 rfl dX5_refuse_5 ?_
    refine x_get hC fl_X5_46 dX5_refuse_6 0 rfl rfl ?_
    refine x_alen hC 6 0 rfl rfl dX5_refuse_9 ?_
    refine x_inegE hC (z := (zI (-((7 : Nat) : Int)))) (zI_neg ((7 : Nat) : Int)) dX5_refuse_10 ?_
    refine x_icmp_leZ hC (a := z) (b := (-((7 : Nat) : Int))) 25 dX5_refuse_11 rfl (by omega) (by omega) (fun h11 => ?_) (fun h11 => ?_)
    · -- 11 T
      exact absurd h11 (by omega)
    · -- 11 F
      refine x_aload_n hC 0 rfl dX5_refuse_14 ?_
      refine x_get hC fl_X5_46 dX5_refuse_15 0 rfl rfl ?_
      refine x_iload_n hC 1 rfl dX5_refuse_18 ?_
      refine x_inegE hC (z := (zI (-z))) (zI_neg z) dX5_refuse_19 ?_
      refine x_top (x := (zI (-z))) (y := (nI j)) (by rw [hz]; exact congrArg zI (show - -(j : Int) = (j : Int) by omega)) ?_
      refine x_dup2 hC rfl rfl dX5_refuse_20 ?_
      refine x_iald hC 6 0 rfl rfl (y := (nI v)) (by omega) (by decide) (h6) dX5_refuse_21 ?_
      refine x_iconst hC (v := (nI 1)) dX5_refuse_22 rfl ?_
      refine x_iaddE hC (z := (nI (v + 1))) (nI_add _ _) dX5_refuse_23 ?_
      refine x_iast hC 6 0 rfl rfl (by omega) (by decide) (xw c a (up μ 6 j (nI (v + 1)))) rfl dX5_refuse_24 ?_
      refine x_iload_n hC 1 rfl dX5_refuse_25 ?_
      exact x_iret hC hR dX5_refuse_26 (⟨rfl, rfl⟩)
set_option maxHeartbeats 4000000 in
set_option maxRecDepth 100000 in
theorem c_X5_leaveOut {l : Launch} {D : va_G} {c : Nat → ClassId} {a : Nat → Nat} {μ : Me} {m : Nat} {S : SS} (hI : XI μ S) (hV : SV S) (hm : m < 2 ^ 31) : KV l D (tyE c) (xw c a) yX5_leaveOut cX5_leaveOut 2 (rmL 2) [.ref (a 0), .int (nI m)] μ (fun u => XI u (smask S m)) := by
  refine x_enterV (by decide) (Nat.le_of_ble_eq_true rfl) (fun F hl hD hn hRm hC hR => ?_)
  subst hl hD
  change XW F 0 0 (xw c a μ) [(0, .ref (a 0)), (1, .int (nI m))] 0 []
  change FC F cX5_leaveOut RX5 (tyE c) at hC
  have hn1 := hV.n1
  have hn2 := hV.n2
  have hpn := hV.pn
  have hk6 := hV.k
  have hpk := hV.pk
  have hpk1 := SV.pk1 S
  have hch8 := hV.chips
  have hmk := hV.mask
  have hmk31 : S 0 1 < 2 ^ 31 := by omega
  refine x_iload_n hC 1 rfl dX5_leaveOut_0 ?_
  refine x_aload_n hC 0 rfl dX5_leaveOut_1 ?_
  refine x_get hC fl_X5_10 dX5_leaveOut_2 0 rfl rfl ?_
  refine x_get hC fl_X5_58 dX5_leaveOut_5 1 rfl (v := .int (nI (S 0 1))) (xv hI.mask) ?_
  refine x_icmp_eqN hC 33 dX5_leaveOut_8 rfl (by omega) (by omega) (fun h8 => ?_) (fun h8 => ?_)
  · -- 8 T
    exact x_vret hC hR dX5_leaveOut_33 (by rw [smask, if_pos h8]; exact hI)
  · -- 8 F
    refine x_aload_n hC 0 rfl dX5_leaveOut_11 ?_
    refine x_get hC fl_X5_10 dX5_leaveOut_12 0 rfl rfl ?_
    refine x_iload_n hC 1 rfl dX5_leaveOut_15 ?_
    refine x_put hC fp_X5_58 dX5_leaveOut_16 1 rfl rfl rfl (Nat.le_of_ble_eq_true rfl) (xw c a (up μ 0 1 (nI m))) rfl ?_
    refine x_aload_n hC 0 rfl dX5_leaveOut_19 ?_
    refine x_get hC fl_X5_19 dX5_leaveOut_20 0 rfl rfl ?_
    refine x_callVV hC cw_X5_61 (c_X2_dropRows   ) dX5_leaveOut_23 [] rfl (Nat.le_of_ble_eq_true rfl) rfl (rm_ok hRm (by decide) (by decide)) 2 2 rfl rfl (fun m23 hp23 => ?_)
    subst hp23
    refine x_aload_n hC 0 rfl dX5_leaveOut_26 ?_
    refine x_get hC fl_X5_26 dX5_leaveOut_27 0 rfl rfl ?_
    refine x_callVV hC cw_X5_116 (c_X1_dropHelp  (m := (S 0 3)) (by first | assumption | exact hI.n | exact hI.mask | exact hI.k | exact hI.chips | omega) (by first | assumption | exact hI.n | exact hI.mask | exact hI.k | exact hI.chips | omega)) dX5_leaveOut_30 [] rfl (Nat.le_of_ble_eq_true rfl) rfl (rm_ok hRm (by decide) (by decide)) 1 3 rfl rfl (fun m30 hp30 => ?_)
    obtain ⟨f, rfl, hf⟩ := hp30
    exact x_vret hC hR dX5_leaveOut_33 (hI.maskc m h8 hf)
set_option maxHeartbeats 4000000 in
set_option maxRecDepth 100000 in
theorem c_X5_cells {l : Launch} {D : va_G} {c : Nat → ClassId} {a : Nat → Nat} {μ : Me} {x : Int32} {S : SS} (hI : XI μ S) (hV : SV S) : KI l D (tyE c) (xw c a) yX5_cells cX5_cells 3 .int (rmL 2) [.ref (a 0), .int x] μ (fun r u => r = (sp_cells S x).1 ∧ XI u (sp_cells S x).2) := by
  refine x_enterI (by decide) (Nat.le_of_ble_eq_true rfl) (fun F hl hD hn hRm hC hR => ?_)
  subst hl hD
  change XW F 0 0 (xw c a μ) [(0, .ref (a 0)), (1, .int x)] 0 []
  change FC F cX5_cells RX5 (tyE c) at hC
  have hn1 := hV.n1
  have hn2 := hV.n2
  have hpn := hV.pn
  have hk6 := hV.k
  have hpk := hV.pk
  have hpk1 := SV.pk1 S
  have hch8 := hV.chips
  have hmk := hV.mask
  have hmk31 : S 0 1 < 2 ^ 31 := by omega
  refine x_iload_n hC 1 rfl dX5_cells_0 ?_
  refine x_iconst hC (v := (nI 4)) dX5_cells_1 rfl ?_
  refine x_icmp_ge hC 12 dX5_cells_2 rfl (fun h2 => ?_) (fun h2 => ?_)
  · -- 2 T
    have g2 : ¬ x < nI 4 := by first | exact i32_nlt h2 | exact i32_nlt' h2 | exact h2
    refine x_iload_n hC 1 rfl dX5_cells_12 ?_
    refine x_bipush hC (v := (nI 14)) dX5_cells_13 rfl ?_
    refine x_icmp_le hC 25 dX5_cells_15 rfl (fun h15 => ?_) (fun h15 => ?_)
    · -- 15 T
      have g15 : ¬ nI 14 < x := by first | exact i32_nlt h15 | exact i32_nlt' h15 | exact h15
      obtain ⟨v, hv1, hv2, rfl⟩ := rng (lo := 4) (hi := 14) (by decide) (by decide) g2 g15
      have tv := tn_nI (v := v) (by omega)
      refine x_aload_n hC 0 rfl dX5_cells_25 ?_
      refine x_get hC fl_X5_10 dX5_cells_26 0 rfl rfl ?_
      refine x_get hC fl_X5_54 dX5_cells_29 1 rfl (v := .int (nI (S 0 0))) (xv hI.n) ?_
      refine x_istore_n hC [(2, .int (nI (S 0 0))), (0, .ref (a 0)), (1, .int (nI v))] rfl (lt_n hn rfl) dX5_cells_32 ?_
      refine x_aload_n hC 1 rfl dX5_cells_33 ?_
      refine x_get hC fl_X5_10 dX5_cells_34 0 rfl rfl ?_
      refine x_iload_n hC 2 rfl dX5_cells_37 ?_
      refine x_put hC fp_X5_54 dX5_cells_38 1 rfl rfl rfl (Nat.le_of_ble_eq_true rfl) (xw c a (up μ 0 0 (nI v))) rfl ?_
      refine x_aload_n hC 1 rfl dX5_cells_41 ?_
      refine x_get hC fl_X5_10 dX5_cells_42 0 rfl rfl ?_
      refine x_iconst hC (v := (nI 0)) dX5_cells_45 rfl ?_
      refine x_put hC fp_X5_58 dX5_cells_46 1 rfl rfl rfl (Nat.le_of_ble_eq_true rfl) (xw c a (up (up μ 0 0 (nI v)) 0 1 (nI 0))) rfl ?_
      refine x_aload_n hC 1 rfl dX5_cells_49 ?_
      refine x_get hC fl_X5_19 dX5_cells_50 0 rfl rfl ?_
      refine x_callVV hC cw_X5_61 (c_X2_dropRows   ) dX5_cells_53 [] rfl (Nat.le_of_ble_eq_true rfl) rfl (rm_ok hRm (by decide) (by decide)) 2 2 rfl rfl (fun m53 hp53 => ?_)
      subst hp53
      refine x_aload_n hC 1 rfl dX5_cells_56 ?_
      refine x_get hC fl_X5_26 dX5_cells_57 0 rfl rfl ?_
      refine x_callVV hC cw_X5_64 (c_X1_dropAll   ) dX5_cells_60 [] rfl (Nat.le_of_ble_eq_true rfl) rfl (rm_ok hRm (by decide) (by decide)) 1 3 rfl rfl (fun m60 hp60 => ?_)
      subst hp60
      refine x_iload_n hC 0 rfl dX5_cells_63 ?_
      exact x_iret hC hR dX5_cells_64 (sp_leaf (by simp [sp_cells, g2, g15, tv]) (hI.new v))
    · -- 15 F
      have g15 : nI 14 < x := by first | exact i32_nlt h15 | exact i32_nlt' h15 | exact h15
      refine x_aload_n hC 0 rfl dX5_cells_18 ?_
      refine x_bipush hC (v := (zI (-6))) dX5_cells_19 rfl ?_
      refine x_callVI hC cw_X5_50 (c_X5_refuse (z := (-6)) (j := 6) (v := (S 1 6)) (by decide) (by decide) (hI.ref 6 (by decide))) dX5_cells_21 [] rfl (Nat.le_of_ble_eq_true rfl) rfl (rm_ok hRm (by decide) (by decide)) 5 0 rfl rfl (fun r21 m21 hp21 => ?_)
      obtain ⟨rfl, rfl⟩ := hp21
      exact x_iret hC hR dX5_cells_24 (sp_leaf (by simp [sp_cells, g2, g15]) (hI.rfs 6 (by decide)))
  · -- 2 F
    have g2 : x < nI 4 := by first | exact i32_nlt h2 | exact i32_nlt' h2 | exact h2
    refine x_aload_n hC 0 rfl dX5_cells_5 ?_
    refine x_bipush hC (v := (zI (-4))) dX5_cells_6 rfl ?_
    refine x_callVI hC cw_X5_50 (c_X5_refuse (z := (-4)) (j := 4) (v := (S 1 4)) (by decide) (by decide) (hI.ref 4 (by decide))) dX5_cells_8 [] rfl (Nat.le_of_ble_eq_true rfl) rfl (rm_ok hRm (by decide) (by decide)) 5 0 rfl rfl (fun r8 m8 hp8 => ?_)
    obtain ⟨rfl, rfl⟩ := hp8
    exact x_iret hC hR dX5_cells_11 (sp_leaf (by simp [sp_cells, g2]) (hI.rfs 4 (by decide)))
set_option maxHeartbeats 4000000 in
set_option maxRecDepth 100000 in
theorem c_X5_chip {l : Launch} {D : va_G} {c : Nat → ClassId} {a : Nat → Nat} {μ : Me} {x : Int32} {S : SS} (hI : XI μ S) (hV : SV S) : KI l D (tyE c) (xw c a) yX5_chip cX5_chip 2 .int (rmL 2) [.ref (a 0), .int x] μ (fun r u => r = (sp_chip S x).1 ∧ XI u (sp_chip S x).2) := by
  refine x_enterI (by decide) (Nat.le_of_ble_eq_true rfl) (fun F hl hD hn hRm hC hR => ?_)
  subst hl hD
  change XW F 0 0 (xw c a μ) [(0, .ref (a 0)), (1, .int x)] 0 []
  change FC F cX5_chip RX5 (tyE c) at hC
  have hn1 := hV.n1
  have hn2 := hV.n2
  have hpn := hV.pn
  have hk6 := hV.k
  have hpk := hV.pk
  have hpk1 := SV.pk1 S
  have hch8 := hV.chips
  have hmk := hV.mask
  have hmk31 : S 0 1 < 2 ^ 31 := by omega
  refine x_aload_n hC 0 rfl dX5_chip_0 ?_
  refine x_get hC fl_X5_10 dX5_chip_1 0 rfl rfl ?_
  refine x_iload_n hC 1 rfl dX5_chip_4 ?_
  refine x_callVI hC cw_X5_67 (c_X0_isWord (x := x) (n := (S 0 0)) (by first | assumption | exact hI.n | exact hI.mask | exact hI.k | exact hI.chips | omega) (by first | assumption | exact hI.n | exact hI.mask | exact hI.k | exact hI.chips | omega)) dX5_chip_5 [] rfl (Nat.le_of_ble_eq_true rfl) rfl (rm_ok hRm (by decide) (by decide)) 0 1 rfl rfl (fun r5 m5 hp5 => ?_)
  obtain ⟨rfl, rfl⟩ := hp5
  refine x_if_neB hC 17 dX5_chip_8 rfl (fun h8 => ?_) (fun h8 => ?_)
  · -- 8 T
    obtain ⟨v, hv, rfl⟩ := isI_T h8
    have tv := tn_nI (v := v) (by omega)
    refine x_aload_n hC 0 rfl dX5_chip_17 ?_
    refine x_get hC fl_X5_26 dX5_chip_18 0 rfl rfl ?_
    refine x_get hC fl_X5_71 dX5_chip_21 3 rfl (v := .int (nI (S 0 3))) (xv hI.chips) ?_
    refine x_bipush hC (v := (nI 8)) dX5_chip_24 rfl ?_
    refine x_icmp_ltN hC 36 dX5_chip_26 rfl (by omega) (by decide) (fun h26 => ?_) (fun h26 => ?_)
    · -- 26 T
      refine x_aload_n hC 0 rfl dX5_chip_36 ?_
      refine x_get hC fl_X5_26 dX5_chip_37 0 rfl rfl ?_
      refine x_iload_n hC 1 rfl dX5_chip_40 ?_
      refine x_callVI hC cw_X5_74 (c_X1_add (w := v) (m := (S 0 3)) (by first | assumption | exact hI.n | exact hI.mask | exact hI.k | exact hI.chips | omega) (by first | assumption | exact hI.n | exact hI.mask | exact hI.k | exact hI.chips | omega)) dX5_chip_41 [] rfl (Nat.le_of_ble_eq_true rfl) rfl (rm_ok hRm (by decide) (by decide)) 1 3 rfl rfl (fun r41 m41 hp41 => ?_)
      obtain ⟨rfl, rfl⟩ := hp41
      exact x_iret hC hR dX5_chip_44 (sp_leaf (by simp [sp_chip, h8, h26, tv]) (hI.addc v))
    · -- 26 F
      refine x_aload_n hC 0 rfl dX5_chip_29 ?_
      refine x_bipush hC (v := (zI (-6))) dX5_chip_30 rfl ?_
      refine x_callVI hC cw_X5_50 (c_X5_refuse (z := (-6)) (j := 6) (v := (S 1 6)) (by decide) (by decide) (hI.ref 6 (by decide))) dX5_chip_32 [] rfl (Nat.le_of_ble_eq_true rfl) rfl (rm_ok hRm (by decide) (by decide)) 5 0 rfl rfl (fun r32 m32 hp32 => ?_)
      obtain ⟨rfl, rfl⟩ := hp32
      exact x_iret hC hR dX5_chip_35 (sp_leaf (by simp [sp_chip, h8, Nat.not_lt.mpr h26, tv]) (hI.rfs 6 (by decide)))
  · -- 8 F
    refine x_aload_n hC 0 rfl dX5_chip_11 ?_
    refine x_iconst hC (v := (zI (-1))) dX5_chip_12 rfl ?_
    refine x_callVI hC cw_X5_50 (c_X5_refuse (z := (-1)) (j := 1) (v := (S 1 1)) (by decide) (by decide) (hI.ref 1 (by decide))) dX5_chip_13 [] rfl (Nat.le_of_ble_eq_true rfl) rfl (rm_ok hRm (by decide) (by decide)) 5 0 rfl rfl (fun r13 m13 hp13 => ?_)
    obtain ⟨rfl, rfl⟩ := hp13
    exact x_iret hC hR dX5_chip_16 (sp_leaf (by simp [sp_chip, h8]) (hI.rfs 1 (by decide)))
set_option maxHeartbeats 4000000 in
set_option maxRecDepth 100000 in
theorem c_X5_set {l : Launch} {D : va_G} {c : Nat → ClassId} {a : Nat → Nat} {μ : Me} {c0 : Int32} {t : Int32} {v : Int32} {S : SS} (hI : XI μ S) (hV : SV S) : KI l D (tyE c) (xw c a) yX5_set cX5_set 4 .int (rmL 2) [.ref (a 0), .int c0, .int t, .int v] μ (fun r u => r = (sp_set S c0 t v).1 ∧ XI u (sp_set S c0 t v).2) := by
  refine x_enterI (by decide) (Nat.le_of_ble_eq_true rfl) (fun F hl hD hn hRm hC hR => ?_)
  subst hl hD
  change XW F 0 0 (xw c a μ) [(0, .ref (a 0)), (1, .int c0), (2, .int t), (3, .int v)] 0 []
  change FC F cX5_set RX5 (tyE c) at hC
  have hn1 := hV.n1
  have hn2 := hV.n2
  have hpn := hV.pn
  have hk6 := hV.k
  have hpk := hV.pk
  have hpk1 := SV.pk1 S
  have hch8 := hV.chips
  have hmk := hV.mask
  have hmk31 : S 0 1 < 2 ^ 31 := by omega
  refine x_iload_n hC 1 rfl dX5_set_0 ?_
  refine x_if_lt hC 10 dX5_set_1 rfl (fun h1 => ?_) (fun h1 => ?_)
  · -- 1 T
    have g1 : isI 14 c0 = false := isI_neg h1
    refine x_aload_n hC 0 rfl dX5_set_10 ?_
    refine x_iconst hC (v := (zI (-1))) dX5_set_11 rfl ?_
    refine x_callVI hC cw_X5_50 (c_X5_refuse (z := (-1)) (j := 1) (v := (S 1 1)) (by decide) (by decide) (hI.ref 1 (by decide))) dX5_set_12 [] rfl (Nat.le_of_ble_eq_true rfl) rfl (rm_ok hRm (by decide) (by decide)) 5 0 rfl rfl (fun r12 m12 hp12 => ?_)
    obtain ⟨rfl, rfl⟩ := hp12
    exact x_iret hC hR dX5_set_15 (sp_leaf (by simp [sp_set, g1]) (hI.rfs 1 (by decide)))
  · -- 1 F
    refine x_iload_n hC 1 rfl dX5_set_4 ?_
    refine x_bipush hC (v := (nI 14)) dX5_set_5 rfl ?_
    refine x_icmp_lt hC 16 dX5_set_7 rfl (fun h7 => ?_) (fun h7 => ?_)
    · -- 7 T
      have g7 : isI 14 c0 = true := isI_ok (by decide) h1 (fun q => absurd h7 (by rw [i32_lt]; rw [i32_le] at q; omega))
      obtain ⟨u, hu, rfl⟩ := isI_T g7
      have tu := tn_nI (v := u) (by omega)
      refine x_iload_n hC 2 rfl dX5_set_16 ?_
      refine x_if_lt hC 25 dX5_set_17 rfl (fun h17 => ?_) (fun h17 => ?_)
      · -- 17 T
        have g17 : isI 3 t = false := isI_neg h17
        refine x_aload_n hC 0 rfl dX5_set_25 ?_
        refine x_bipush hC (v := (zI (-2))) dX5_set_26 rfl ?_
        refine x_callVI hC cw_X5_50 (c_X5_refuse (z := (-2)) (j := 2) (v := (S 1 2)) (by decide) (by decide) (hI.ref 2 (by decide))) dX5_set_28 [] rfl (Nat.le_of_ble_eq_true rfl) rfl (rm_ok hRm (by decide) (by decide)) 5 0 rfl rfl (fun r28 m28 hp28 => ?_)
        obtain ⟨rfl, rfl⟩ := hp28
        exact x_iret hC hR dX5_set_31 (sp_leaf (by simp [sp_set, g7, g7, g17, tu]) (hI.rfs 2 (by decide)))
      · -- 17 F
        refine x_iload_n hC 2 rfl dX5_set_20 ?_
        refine x_iconst hC (v := (nI 2)) dX5_set_21 rfl ?_
        refine x_icmp_le hC 32 dX5_set_22 rfl (fun h22 => ?_) (fun h22 => ?_)
        · -- 22 T
          have g22 : isI 3 t = true := isI_ok (by decide) h17 (fun q => absurd h22 (by rw [i32_le] at q ⊢; simp only [nI_toI (show 2 < 2147483648 by decide), nI_toI (show 3 < 2147483648 by decide)] at q ⊢; omega))
          obtain ⟨w, hw, rfl⟩ := isI_T g22
          have tw := tn_nI (v := w) (by omega)
          have hlo : lo2 w ≤ 1 := by unfold lo2; split <;> omega
          have hhi : hi2 w ≤ 7 := by unfold hi2; split <;> omega
          refine x_iload_n hC 3 rfl dX5_set_32 ?_
          refine x_iload_n hC 2 rfl dX5_set_33 ?_
          refine x_callN hC cs_X5_77 (c_X0_leastOf (t := w)  (by first | assumption | exact hI.n | exact hI.mask | exact hI.k | exact hI.chips | omega)) dX5_set_34 [.int v] rfl (Nat.le_of_ble_eq_true rfl) rfl (rm_ok hRm (by decide) (by decide)) ?_
          refine x_icmp_ge hC 47 dX5_set_37 rfl (fun h37 => ?_) (fun h37 => ?_)
          · -- 37 T
            have g37 : ¬ v < nI (lo2 w) := by first | exact i32_nlt h37 | exact i32_nlt' h37 | exact h37
            refine x_iload_n hC 3 rfl dX5_set_47 ?_
            refine x_iload_n hC 2 rfl dX5_set_48 ?_
            refine x_callN hC cs_X5_80 (c_X0_greatestOf (t := w)  (by first | assumption | exact hI.n | exact hI.mask | exact hI.k | exact hI.chips | omega)) dX5_set_49 [.int v] rfl (Nat.le_of_ble_eq_true rfl) rfl (rm_ok hRm (by decide) (by decide)) ?_
            refine x_icmp_le hC 62 dX5_set_52 rfl (fun h52 => ?_) (fun h52 => ?_)
            · -- 52 T
              have g52 : ¬ nI (hi2 w) < v := by first | exact i32_nlt h52 | exact i32_nlt' h52 | exact h52
              obtain ⟨y, hy1, hy2, rfl⟩ := rng (lo := lo2 w) (hi := hi2 w) (by omega) (by omega) g37 g52
              have ty9 := tn_nI (v := y) (by omega)
              refine x_aload_n hC 0 rfl dX5_set_62 ?_
              refine x_get hC fl_X5_10 dX5_set_63 0 rfl rfl ?_
              refine x_iload_n hC 1 rfl dX5_set_66 ?_
              refine x_iload_n hC 2 rfl dX5_set_67 ?_
              refine x_iload_n hC 3 rfl dX5_set_68 ?_
              refine x_callVI hC cw_X5_83 (c_X0_change (i := u) (t := w) (v := y)  hu hw) dX5_set_69 [] rfl (Nat.le_of_ble_eq_true rfl) rfl (rm_ok hRm (by decide) (by decide)) 0 1 rfl rfl (fun r69 m69 hp69 => ?_)
              obtain ⟨rfl, rfl⟩ := hp69
              refine x_top (x := μ (8 + w) u) (y := nI (S (2 + w) u)) (told_at hI hw hu) ?_
              exact x_iret hC hR dX5_set_72 (sp_leaf (by simp [sp_set, g7, g7, g22, g22, g37, g52, tu, tw, ty9]) (hI.setc0 w u y hw))
            · -- 52 F
              have g52 : nI (hi2 w) < v := by first | exact i32_nlt h52 | exact i32_nlt' h52 | exact h52
              refine x_aload_n hC 0 rfl dX5_set_55 ?_
              refine x_bipush hC (v := (zI (-6))) dX5_set_56 rfl ?_
              refine x_callVI hC cw_X5_50 (c_X5_refuse (z := (-6)) (j := 6) (v := (S 1 6)) (by decide) (by decide) (hI.ref 6 (by decide))) dX5_set_58 [] rfl (Nat.le_of_ble_eq_true rfl) rfl (rm_ok hRm (by decide) (by decide)) 5 0 rfl rfl (fun r58 m58 hp58 => ?_)
              obtain ⟨rfl, rfl⟩ := hp58
              exact x_iret hC hR dX5_set_61 (sp_leaf (by simp [sp_set, g7, g7, g22, g22, g37, g52, tu, tw]) (hI.rfs 6 (by decide)))
          · -- 37 F
            have g37 : v < nI (lo2 w) := by first | exact i32_nlt h37 | exact i32_nlt' h37 | exact h37
            refine x_aload_n hC 0 rfl dX5_set_40 ?_
            refine x_bipush hC (v := (zI (-4))) dX5_set_41 rfl ?_
            refine x_callVI hC cw_X5_50 (c_X5_refuse (z := (-4)) (j := 4) (v := (S 1 4)) (by decide) (by decide) (hI.ref 4 (by decide))) dX5_set_43 [] rfl (Nat.le_of_ble_eq_true rfl) rfl (rm_ok hRm (by decide) (by decide)) 5 0 rfl rfl (fun r43 m43 hp43 => ?_)
            obtain ⟨rfl, rfl⟩ := hp43
            exact x_iret hC hR dX5_set_46 (sp_leaf (by simp [sp_set, g7, g7, g22, g22, g37, tu, tw]) (hI.rfs 4 (by decide)))
        · -- 22 F
          have g22 : isI 3 t = false := isI_big (by decide) (by rw [i32_le] at h22 ⊢; simp only [nI_toI (show 2 < 2147483648 by decide), nI_toI (show 3 < 2147483648 by decide)] at h22 ⊢; omega)
          refine x_aload_n hC 0 rfl dX5_set_25 ?_
          refine x_bipush hC (v := (zI (-2))) dX5_set_26 rfl ?_
          refine x_callVI hC cw_X5_50 (c_X5_refuse (z := (-2)) (j := 2) (v := (S 1 2)) (by decide) (by decide) (hI.ref 2 (by decide))) dX5_set_28 [] rfl (Nat.le_of_ble_eq_true rfl) rfl (rm_ok hRm (by decide) (by decide)) 5 0 rfl rfl (fun r28 m28 hp28 => ?_)
          obtain ⟨rfl, rfl⟩ := hp28
          exact x_iret hC hR dX5_set_31 (sp_leaf (by simp [sp_set, g7, g7, g22, g22, tu]) (hI.rfs 2 (by decide)))
    · -- 7 F
      have g7 : isI 14 c0 = false := isI_big (by decide) (by rw [i32_le]; rw [i32_lt] at h7; omega)
      refine x_aload_n hC 0 rfl dX5_set_10 ?_
      refine x_iconst hC (v := (zI (-1))) dX5_set_11 rfl ?_
      refine x_callVI hC cw_X5_50 (c_X5_refuse (z := (-1)) (j := 1) (v := (S 1 1)) (by decide) (by decide) (hI.ref 1 (by decide))) dX5_set_12 [] rfl (Nat.le_of_ble_eq_true rfl) rfl (rm_ok hRm (by decide) (by decide)) 5 0 rfl rfl (fun r12 m12 hp12 => ?_)
      obtain ⟨rfl, rfl⟩ := hp12
      exact x_iret hC hR dX5_set_15 (sp_leaf (by simp [sp_set, g7, g7]) (hI.rfs 1 (by decide)))
set_option maxHeartbeats 4000000 in
set_option maxRecDepth 100000 in
theorem c_X5_chance {l : Launch} {D : va_G} {c : Nat → ClassId} {a : Nat → Nat} {μ : Me} {x : Int32} {age : Int32} {S : SS} (hI : XI μ S) (hV : SV S) : KI l D (tyE c) (xw c a) yX5_chance cX5_chance 3 .int (rmL 3) [.ref (a 0), .int x, .int age] μ (fun r u => r = (sp_chance S x age).1 ∧ XI u (sp_chance S x age).2) := by
  refine x_enterI (by decide) (Nat.le_of_ble_eq_true rfl) (fun F hl hD hn hRm hC hR => ?_)
  subst hl hD
  change XW F 0 0 (xw c a μ) [(0, .ref (a 0)), (1, .int x), (2, .int age)] 0 []
  change FC F cX5_chance RX5 (tyE c) at hC
  have hn1 := hV.n1
  have hn2 := hV.n2
  have hpn := hV.pn
  have hk6 := hV.k
  have hpk := hV.pk
  have hpk1 := SV.pk1 S
  have hch8 := hV.chips
  have hmk := hV.mask
  have hmk31 : S 0 1 < 2 ^ 31 := by omega
  have hX8 := hI.ch
  have hX9 := hI.we
  have hcb : ∀ j, j < 14 → S 2 j ≤ 4 ∧ S 3 j ≤ 4 := fun j h => ⟨(hV.told j h).1, (hV.told j h).2.1⟩
  refine x_aload_n hC 0 rfl dX5_chance_0 ?_
  refine x_get hC fl_X5_10 dX5_chance_1 0 rfl rfl ?_
  refine x_iload_n hC 1 rfl dX5_chance_4 ?_
  refine x_callVI hC cw_X5_87 (c_X0_isCell (x := x) (n := (S 0 0)) (by first | assumption | exact hI.n | exact hI.mask | exact hI.k | exact hI.chips | omega) (by first | assumption | exact hI.n | exact hI.mask | exact hI.k | exact hI.chips | omega)) dX5_chance_5 [] rfl (Nat.le_of_ble_eq_true rfl) rfl (rm_ok hRm (by decide) (by decide)) 0 1 rfl rfl (fun r5 m5 hp5 => ?_)
  obtain ⟨rfl, rfl⟩ := hp5
  refine x_if_neB hC 17 dX5_chance_8 rfl (fun h8 => ?_) (fun h8 => ?_)
  · -- 8 T
    obtain ⟨v, hv, rfl⟩ := isI_T h8
    have tv := tn_nI (v := v) (by omega)
    refine x_iload_n hC 2 rfl dX5_chance_17 ?_
    refine x_if_ge hC 28 dX5_chance_18 rfl (fun h18 => ?_) (fun h18 => ?_)
    · -- 18 T
      have g18 : ¬ age < nI 0 := by first | exact i32_nlt h18 | exact i32_nlt' h18 | exact h18
      refine x_iload_n hC 2 rfl dX5_chance_28 ?_
      refine x_bipush hC (v := (nI 40)) dX5_chance_29 rfl ?_
      refine x_icmp_le hC 41 dX5_chance_31 rfl (fun h31 => ?_) (fun h31 => ?_)
      · -- 31 T
        have g31 : ¬ nI 40 < age := by first | exact i32_nlt h31 | exact i32_nlt' h31 | exact h31
        obtain ⟨y, hy1, hy2, rfl⟩ := rng (lo := 0) (hi := 40) (by decide) (by decide) g18 g31
        have ty := tn_nI (v := y) (by omega)
        refine x_aload_n hC 0 rfl dX5_chance_41 ?_
        refine x_get hC fl_X5_10 dX5_chance_42 0 rfl rfl ?_
        refine x_iload_n hC 1 rfl dX5_chance_45 ?_
        refine x_callVI hC cw_X5_90 (c_X0_isMasked (i := v) (m := (S 0 1)) (by first | assumption | exact hI.n | exact hI.mask | exact hI.k | exact hI.chips | omega) (by first | assumption | exact hI.n | exact hI.mask | exact hI.k | exact hI.chips | omega) (by first | assumption | exact hI.n | exact hI.mask | exact hI.k | exact hI.chips | omega)) dX5_chance_46 [] rfl (Nat.le_of_ble_eq_true rfl) rfl (rm_ok hRm (by decide) (by decide)) 0 1 rfl rfl (fun r46 m46 hp46 => ?_)
        obtain ⟨rfl, rfl⟩ := hp46
        refine x_if_eqB hC 56 dX5_chance_49 rfl (fun h49 => ?_) (fun h49 => ?_)
        · -- 49 T
          have g49 := of_decide_eq_false h49
          refine x_aload_n hC 0 rfl dX5_chance_56 ?_
          refine x_get hC fl_X5_10 dX5_chance_57 0 rfl rfl ?_
          refine x_iload_n hC 1 rfl dX5_chance_60 ?_
          refine x_iload_n hC 2 rfl dX5_chance_61 ?_
          refine x_callVI hC cw_X5_93 (c_X0_agedChance (i := v) (age := y) (p := (S 2 v)) (q := (S 3 v)) (hX8 v (by omega)) (hX9 v (by omega)) (by omega) (hcb v (by omega)).1 (hcb v (by omega)).2 (by omega)) dX5_chance_62 [] rfl (Nat.le_of_ble_eq_true rfl) rfl (rm_ok hRm (by decide) (by decide)) 0 1 rfl rfl (fun r62 m62 hp62 => ?_)
          obtain ⟨rfl, rfl⟩ := hp62
          exact x_iret hC hR dX5_chance_65 (sp_leaf (by simp [sp_chance, h8, g18, g31, g49, tv, ty, agS]) (hI))
        · -- 49 F
          have g49 := of_decide_eq_true h49
          refine x_iconst hC (v := (nI 0)) dX5_chance_52 rfl ?_
          refine x_goto hC 65 dX5_chance_53 rfl ?_
          exact x_iret hC hR dX5_chance_65 (sp_leaf (by simp [sp_chance, h8, g18, g31, g49, tv, ty, agS]) (hI))
      · -- 31 F
        have g31 : nI 40 < age := by first | exact i32_nlt h31 | exact i32_nlt' h31 | exact h31
        refine x_aload_n hC 0 rfl dX5_chance_34 ?_
        refine x_bipush hC (v := (zI (-6))) dX5_chance_35 rfl ?_
        refine x_callVI hC cw_X5_50 (c_X5_refuse (z := (-6)) (j := 6) (v := (S 1 6)) (by decide) (by decide) (hI.ref 6 (by decide))) dX5_chance_37 [] rfl (Nat.le_of_ble_eq_true rfl) rfl (rm_ok hRm (by decide) (by decide)) 5 0 rfl rfl (fun r37 m37 hp37 => ?_)
        obtain ⟨rfl, rfl⟩ := hp37
        exact x_iret hC hR dX5_chance_40 (sp_leaf (by simp [sp_chance, h8, g18, g31, tv, agS]) (hI.rfs 6 (by decide)))
    · -- 18 F
      have g18 : age < nI 0 := by first | exact i32_nlt h18 | exact i32_nlt' h18 | exact h18
      refine x_aload_n hC 0 rfl dX5_chance_21 ?_
      refine x_bipush hC (v := (zI (-4))) dX5_chance_22 rfl ?_
      refine x_callVI hC cw_X5_50 (c_X5_refuse (z := (-4)) (j := 4) (v := (S 1 4)) (by decide) (by decide) (hI.ref 4 (by decide))) dX5_chance_24 [] rfl (Nat.le_of_ble_eq_true rfl) rfl (rm_ok hRm (by decide) (by decide)) 5 0 rfl rfl (fun r24 m24 hp24 => ?_)
      obtain ⟨rfl, rfl⟩ := hp24
      exact x_iret hC hR dX5_chance_27 (sp_leaf (by simp [sp_chance, h8, g18, tv, agS]) (hI.rfs 4 (by decide)))
  · -- 8 F
    refine x_aload_n hC 0 rfl dX5_chance_11 ?_
    refine x_iconst hC (v := (zI (-1))) dX5_chance_12 rfl ?_
    refine x_callVI hC cw_X5_50 (c_X5_refuse (z := (-1)) (j := 1) (v := (S 1 1)) (by decide) (by decide) (hI.ref 1 (by decide))) dX5_chance_13 [] rfl (Nat.le_of_ble_eq_true rfl) rfl (rm_ok hRm (by decide) (by decide)) 5 0 rfl rfl (fun r13 m13 hp13 => ?_)
    obtain ⟨rfl, rfl⟩ := hp13
    exact x_iret hC hR dX5_chance_16 (sp_leaf (by simp [sp_chance, h8, agS]) (hI.rfs 1 (by decide)))
set_option maxHeartbeats 4000000 in
set_option maxRecDepth 100000 in
theorem c_X5_mask {l : Launch} {D : va_G} {c : Nat → ClassId} {a : Nat → Nat} {μ : Me} {x : Int32} {S : SS} (hI : XI μ S) (hV : SV S) : KI l D (tyE c) (xw c a) yX5_mask cX5_mask 3 .int (rmL 3) [.ref (a 0), .int x] μ (fun r u => r = (sp_mask S x).1 ∧ XI u (sp_mask S x).2) := by
  refine x_enterI (by decide) (Nat.le_of_ble_eq_true rfl) (fun F hl hD hn hRm hC hR => ?_)
  subst hl hD
  change XW F 0 0 (xw c a μ) [(0, .ref (a 0)), (1, .int x)] 0 []
  change FC F cX5_mask RX5 (tyE c) at hC
  have hn1 := hV.n1
  have hn2 := hV.n2
  have hpn := hV.pn
  have hk6 := hV.k
  have hpk := hV.pk
  have hpk1 := SV.pk1 S
  have hch8 := hV.chips
  have hmk := hV.mask
  have hmk31 : S 0 1 < 2 ^ 31 := by omega
  refine x_aload_n hC 0 rfl dX5_mask_0 ?_
  refine x_get hC fl_X5_10 dX5_mask_1 0 rfl rfl ?_
  refine x_iload_n hC 1 rfl dX5_mask_4 ?_
  refine x_callVI hC cw_X5_67 (c_X0_isWord (x := x) (n := (S 0 0)) (by first | assumption | exact hI.n | exact hI.mask | exact hI.k | exact hI.chips | omega) (by first | assumption | exact hI.n | exact hI.mask | exact hI.k | exact hI.chips | omega)) dX5_mask_5 [] rfl (Nat.le_of_ble_eq_true rfl) rfl (rm_ok hRm (by decide) (by decide)) 0 1 rfl rfl (fun r5 m5 hp5 => ?_)
  obtain ⟨rfl, rfl⟩ := hp5
  refine x_if_neB hC 17 dX5_mask_8 rfl (fun h8 => ?_) (fun h8 => ?_)
  · -- 8 T
    obtain ⟨v, hv, rfl⟩ := isI_T h8
    have tv := tn_nI (v := v) (by omega)
    refine x_aload_n hC 0 rfl dX5_mask_17 ?_
    refine x_get hC fl_X5_10 dX5_mask_18 0 rfl rfl ?_
    refine x_get hC fl_X5_58 dX5_mask_21 1 rfl (v := .int (nI (S 0 1))) (xv hI.mask) ?_
    refine x_istore_n hC [(2, .int (nI (S 0 1))), (0, .ref (a 0)), (1, .int (nI v))] rfl (lt_n hn rfl) dX5_mask_24 ?_
    refine x_aload_n hC 1 rfl dX5_mask_25 ?_
    refine x_iload_n hC 2 rfl dX5_mask_26 ?_
    refine x_callVV hC cw_X5_97 (c_X5_leaveOut (m := v) (S := S) hI hV (by omega)) dX5_mask_27 [] rfl (Nat.le_of_ble_eq_true rfl) rfl (rm_ok hRm (by decide) (by decide)) 5 0 rfl rfl (fun m27 hp27 => ?_)
    refine x_iload_n hC 0 rfl dX5_mask_30 ?_
    exact x_iret hC hR dX5_mask_31 (sp_leaf (by simp [sp_mask, h8, tv]) (hp27))
  · -- 8 F
    refine x_aload_n hC 0 rfl dX5_mask_11 ?_
    refine x_iconst hC (v := (zI (-1))) dX5_mask_12 rfl ?_
    refine x_callVI hC cw_X5_50 (c_X5_refuse (z := (-1)) (j := 1) (v := (S 1 1)) (by decide) (by decide) (hI.ref 1 (by decide))) dX5_mask_13 [] rfl (Nat.le_of_ble_eq_true rfl) rfl (rm_ok hRm (by decide) (by decide)) 5 0 rfl rfl (fun r13 m13 hp13 => ?_)
    obtain ⟨rfl, rfl⟩ := hp13
    exact x_iret hC hR dX5_mask_16 (sp_leaf (by simp [sp_mask, h8]) (hI.rfs 1 (by decide)))
set_option maxHeartbeats 4000000 in
set_option maxRecDepth 100000 in
theorem c_X5_maskBy {l : Launch} {D : va_G} {c : Nat → ClassId} {a : Nat → Nat} {μ : Me} {age : Int32} {most : Int32} {S : SS} (hI : XI μ S) (hV : SV S) : KI l D (tyE c) (xw c a) yX5_maskBy cX5_maskBy 3 .int (rmL 4) [.ref (a 0), .int age, .int most] μ (fun r u => r = (sp_maskBy S age most).1 ∧ XI u (sp_maskBy S age most).2) := by
  refine x_enterI (by decide) (Nat.le_of_ble_eq_true rfl) (fun F hl hD hn hRm hC hR => ?_)
  subst hl hD
  change XW F 0 0 (xw c a μ) [(0, .ref (a 0)), (1, .int age), (2, .int most)] 0 []
  change FC F cX5_maskBy RX5 (tyE c) at hC
  have hn1 := hV.n1
  have hn2 := hV.n2
  have hpn := hV.pn
  have hk6 := hV.k
  have hpk := hV.pk
  have hpk1 := SV.pk1 S
  have hch8 := hV.chips
  have hmk := hV.mask
  have hmk31 : S 0 1 < 2 ^ 31 := by omega
  have hX8 := hI.ch
  have hX9 := hI.we
  have hcb : ∀ j, j < 14 → S 2 j ≤ 4 ∧ S 3 j ≤ 4 := fun j h => ⟨(hV.told j h).1, (hV.told j h).2.1⟩
  refine x_iload_n hC 1 rfl dX5_maskBy_0 ?_
  refine x_if_lt hC 8 dX5_maskBy_1 rfl (fun h1 => ?_) (fun h1 => ?_)
  · -- 1 T
    have g1 : age < nI 0 := by first | exact i32_nlt h1 | exact i32_nlt' h1 | exact h1
    refine x_aload_n hC 0 rfl dX5_maskBy_8 ?_
    refine x_bipush hC (v := (zI (-4))) dX5_maskBy_9 rfl ?_
    refine x_callVI hC cw_X5_50 (c_X5_refuse (z := (-4)) (j := 4) (v := (S 1 4)) (by decide) (by decide) (hI.ref 4 (by decide))) dX5_maskBy_11 [] rfl (Nat.le_of_ble_eq_true rfl) rfl (rm_ok hRm (by decide) (by decide)) 5 0 rfl rfl (fun r11 m11 hp11 => ?_)
    obtain ⟨rfl, rfl⟩ := hp11
    exact x_iret hC hR dX5_maskBy_14 (sp_leaf (by simp [sp_maskBy, g1]) (hI.rfs 4 (by decide)))
  · -- 1 F
    have g1 : ¬ age < nI 0 := by first | exact i32_nlt h1 | exact i32_nlt' h1 | exact h1
    refine x_iload_n hC 2 rfl dX5_maskBy_4 ?_
    refine x_if_ge hC 15 dX5_maskBy_5 rfl (fun h5 => ?_) (fun h5 => ?_)
    · -- 5 T
      have g5 : ¬ most < nI 0 := by first | exact i32_nlt h5 | exact i32_nlt' h5 | exact h5
      refine x_iload_n hC 1 rfl dX5_maskBy_15 ?_
      refine x_bipush hC (v := (nI 40)) dX5_maskBy_16 rfl ?_
      refine x_icmp_gt hC 26 dX5_maskBy_18 rfl (fun h18 => ?_) (fun h18 => ?_)
      · -- 18 T
        have g18 : nI 40 < age := by first | exact i32_nlt h18 | exact i32_nlt' h18 | exact h18
        refine x_aload_n hC 0 rfl dX5_maskBy_26 ?_
        refine x_bipush hC (v := (zI (-6))) dX5_maskBy_27 rfl ?_
        refine x_callVI hC cw_X5_50 (c_X5_refuse (z := (-6)) (j := 6) (v := (S 1 6)) (by decide) (by decide) (hI.ref 6 (by decide))) dX5_maskBy_29 [] rfl (Nat.le_of_ble_eq_true rfl) rfl (rm_ok hRm (by decide) (by decide)) 5 0 rfl rfl (fun r29 m29 hp29 => ?_)
        obtain ⟨rfl, rfl⟩ := hp29
        exact x_iret hC hR dX5_maskBy_32 (sp_leaf (by simp [sp_maskBy, g1, g5, g18]) (hI.rfs 6 (by decide)))
      · -- 18 F
        have g18 : ¬ nI 40 < age := by first | exact i32_nlt h18 | exact i32_nlt' h18 | exact h18
        refine x_iload_n hC 2 rfl dX5_maskBy_21 ?_
        refine x_iconst hC (v := (nI 4)) dX5_maskBy_22 rfl ?_
        refine x_icmp_le hC 33 dX5_maskBy_23 rfl (fun h23 => ?_) (fun h23 => ?_)
        · -- 23 T
          have g23 : ¬ nI 4 < most := by first | exact i32_nlt h23 | exact i32_nlt' h23 | exact h23
          obtain ⟨y, hy1, hy2, rfl⟩ := rng (lo := 0) (hi := 40) (by decide) (by decide) g1 g18
          have ty := tn_nI (v := y) (by omega)
          obtain ⟨z, hz1, hz2, rfl⟩ := rng (lo := 0) (hi := 4) (by decide) (by decide) g5 g23
          have tz := tn_nI (v := z) (by omega)
          refine x_aload_n hC 0 rfl dX5_maskBy_33 ?_
          refine x_aload_n hC 0 rfl dX5_maskBy_34 ?_
          refine x_get hC fl_X5_10 dX5_maskBy_35 0 rfl rfl ?_
          refine x_iload_n hC 2 rfl dX5_maskBy_38 ?_
          refine x_iload_n hC 1 rfl dX5_maskBy_39 ?_
          refine x_callVI hC cw_X5_101 (c_X0_likelierThan (most := z) (age := y) (n := (S 0 0)) (ch := (S 2)) (we := (S 3)) hI.n hn2 hX8 hX9 hcb (by omega) (by omega)) dX5_maskBy_40 [.ref (a 0)] rfl (Nat.le_of_ble_eq_true rfl) rfl (rm_ok hRm (by decide) (by decide)) 0 1 rfl rfl (fun r40 m40 hp40 => ?_)
          obtain ⟨rfl, rfl⟩ := hp40
          refine x_callVV hC cw_X5_97 (c_X5_leaveOut (m := (lkx (fun j => ag ((S 2) j) ((S 3) j) y) z (S 0 0))) (S := S) hI hV (by have := lkx_lt (fun j => ag (S 2 j) (S 3 j) y) z (S 0 0); omega)) dX5_maskBy_43 [] rfl (Nat.le_of_ble_eq_true rfl) rfl (rm_ok hRm (by decide) (by decide)) 5 0 rfl rfl (fun m43 hp43 => ?_)
          have hmm : m43 0 1 = nI (lkx (fun j => ag (S 2 j) (S 3 j) y) z (S 0 0)) := by rw [hp43.mask, smask]; split; rename_i e9; rw [e9]; rfl
          refine x_aload_n hC 0 rfl dX5_maskBy_46 ?_
          refine x_get hC fl_X5_10 dX5_maskBy_47 0 rfl rfl ?_
          refine x_get hC fl_X5_58 dX5_maskBy_50 1 rfl (v := .int (nI (lkx (fun j => ag (S 2 j) (S 3 j) y) z (S 0 0)))) (xv hmm) ?_
          exact x_iret hC hR dX5_maskBy_53 (sp_leaf (by simp only [sp_maskBy, g1, g5, g18, g23, or_self, if_false, ty, tz]; rfl) hp43)
        · -- 23 F
          have g23 : nI 4 < most := by first | exact i32_nlt h23 | exact i32_nlt' h23 | exact h23
          refine x_aload_n hC 0 rfl dX5_maskBy_26 ?_
          refine x_bipush hC (v := (zI (-6))) dX5_maskBy_27 rfl ?_
          refine x_callVI hC cw_X5_50 (c_X5_refuse (z := (-6)) (j := 6) (v := (S 1 6)) (by decide) (by decide) (hI.ref 6 (by decide))) dX5_maskBy_29 [] rfl (Nat.le_of_ble_eq_true rfl) rfl (rm_ok hRm (by decide) (by decide)) 5 0 rfl rfl (fun r29 m29 hp29 => ?_)
          obtain ⟨rfl, rfl⟩ := hp29
          exact x_iret hC hR dX5_maskBy_32 (sp_leaf (by simp [sp_maskBy, g1, g5, g18, g23]) (hI.rfs 6 (by decide)))
    · -- 5 F
      have g5 : most < nI 0 := by first | exact i32_nlt h5 | exact i32_nlt' h5 | exact h5
      refine x_aload_n hC 0 rfl dX5_maskBy_8 ?_
      refine x_bipush hC (v := (zI (-4))) dX5_maskBy_9 rfl ?_
      refine x_callVI hC cw_X5_50 (c_X5_refuse (z := (-4)) (j := 4) (v := (S 1 4)) (by decide) (by decide) (hI.ref 4 (by decide))) dX5_maskBy_11 [] rfl (Nat.le_of_ble_eq_true rfl) rfl (rm_ok hRm (by decide) (by decide)) 5 0 rfl rfl (fun r11 m11 hp11 => ?_)
      obtain ⟨rfl, rfl⟩ := hp11
      exact x_iret hC hR dX5_maskBy_14 (sp_leaf (by simp [sp_maskBy, g1, g5]) (hI.rfs 4 (by decide)))
set_option maxHeartbeats 4000000 in
set_option maxRecDepth 100000 in
theorem c_X5_row {l : Launch} {D : va_G} {c : Nat → ClassId} {a : Nat → Nat} {μ : Me} {x : Int32} {S : SS} (hI : XI μ S) (hV : SV S) : KI l D (tyE c) (xw c a) yX5_row cX5_row 3 .int (rmL 3) [.ref (a 0), .int x] μ (fun r u => r = (sp_row S x).1 ∧ XI u (sp_row S x).2) := by
  refine x_enterI (by decide) (Nat.le_of_ble_eq_true rfl) (fun F hl hD hn hRm hC hR => ?_)
  subst hl hD
  change XW F 0 0 (xw c a μ) [(0, .ref (a 0)), (1, .int x)] 0 []
  change FC F cX5_row RX5 (tyE c) at hC
  have hn1 := hV.n1
  have hn2 := hV.n2
  have hpn := hV.pn
  have hk6 := hV.k
  have hpk := hV.pk
  have hpk1 := SV.pk1 S
  have hch8 := hV.chips
  have hmk := hV.mask
  have hmk31 : S 0 1 < 2 ^ 31 := by omega
  have hX11 := hI.words
  have hWb : ∀ j, j < 2 ^ S 0 2 → cw S j < 16384 := fun j _ => cw_lt hV j
  refine x_aload_n hC 0 rfl dX5_row_0 ?_
  refine x_get hC fl_X5_10 dX5_row_1 0 rfl rfl ?_
  refine x_iload_n hC 1 rfl dX5_row_4 ?_
  refine x_callVI hC cw_X5_67 (c_X0_isWord (x := x) (n := (S 0 0)) (by first | assumption | exact hI.n | exact hI.mask | exact hI.k | exact hI.chips | omega) (by first | assumption | exact hI.n | exact hI.mask | exact hI.k | exact hI.chips | omega)) dX5_row_5 [] rfl (Nat.le_of_ble_eq_true rfl) rfl (rm_ok hRm (by decide) (by decide)) 0 1 rfl rfl (fun r5 m5 hp5 => ?_)
  obtain ⟨rfl, rfl⟩ := hp5
  refine x_if_neB hC 17 dX5_row_8 rfl (fun h8 => ?_) (fun h8 => ?_)
  · -- 8 T
    obtain ⟨v, hv, rfl⟩ := isI_T h8
    have tv := tn_nI (v := v) (by omega)
    refine x_aload_n hC 0 rfl dX5_row_17 ?_
    refine x_get hC fl_X5_10 dX5_row_18 0 rfl rfl ?_
    refine x_iload_n hC 1 rfl dX5_row_21 ?_
    refine x_callVI hC cw_X5_104 (c_X0_open (w := v) (m := (S 0 1)) (by first | assumption | exact hI.n | exact hI.mask | exact hI.k | exact hI.chips | omega)) dX5_row_22 [] rfl (Nat.le_of_ble_eq_true rfl) rfl (rm_ok hRm (by decide) (by decide)) 0 1 rfl rfl (fun r22 m22 hp22 => ?_)
    obtain ⟨rfl, rfl⟩ := hp22
    refine x_istore_n hC [(2, .int (nI (nd v (S 0 1)))), (0, .ref (a 0)), (1, .int (nI v))] rfl (lt_n hn rfl) dX5_row_25 ?_
    refine x_aload_n hC 1 rfl dX5_row_26 ?_
    refine x_get hC fl_X5_19 dX5_row_27 0 rfl rfl ?_
    refine x_iload_n hC 0 rfl dX5_row_30 ?_
    refine x_callVI hC cw_X5_107 (c_X2_holds (w := (nd v (S 0 1))) (k := (S 0 2)) (W := (cw S)) hI.k hk6 hX11 hWb (by have := nd_le v (S 0 1); omega)) dX5_row_31 [] rfl (Nat.le_of_ble_eq_true rfl) rfl (rm_ok hRm (by decide) (by decide)) 2 2 rfl rfl (fun r31 m31 hp31 => ?_)
    obtain ⟨rfl, rfl⟩ := hp31
    refine x_if_eqB hC 44 dX5_row_34 rfl (fun h34 => ?_) (fun h34 => ?_)
    · -- 34 T
      refine x_aload_n hC 1 rfl dX5_row_44 ?_
      refine x_get hC fl_X5_19 dX5_row_45 0 rfl rfl ?_
      refine x_get hC fl_X5_110 dX5_row_48 2 rfl (v := .int (nI (S 0 2))) (xv hI.k) ?_
      refine x_bipush hC (v := (nI 6)) dX5_row_51 rfl ?_
      refine x_icmp_ltN hC 63 dX5_row_53 rfl (by omega) (by decide) (fun h53 => ?_) (fun h53 => ?_)
      · -- 53 T
        refine x_aload_n hC 1 rfl dX5_row_63 ?_
        refine x_get hC fl_X5_19 dX5_row_64 0 rfl rfl ?_
        refine x_iload_n hC 0 rfl dX5_row_67 ?_
        refine x_callVV hC cw_X5_113 (c_X2_addRow (w := (nd v (S 0 1))) (k := (S 0 2)) (W := (cw S)) hI.k (by omega) hX11) dX5_row_68 [] rfl (Nat.le_of_ble_eq_true rfl) rfl (rm_ok hRm (by decide) (by decide)) 2 2 rfl rfl (fun m68 hp68 => ?_)
        obtain ⟨f, rfl, hf⟩ := hp68
        refine x_aload_n hC 1 rfl dX5_row_71 ?_
        refine x_get hC fl_X5_26 dX5_row_72 0 rfl rfl ?_
        refine x_callVV hC cw_X5_116 (c_X1_dropHelp  (m := (S 0 3)) hI.chips hch8) dX5_row_75 [] rfl (Nat.le_of_ble_eq_true rfl) rfl (rm_ok hRm (by decide) (by decide)) 1 3 rfl rfl (fun m75 hp75 => ?_)
        obtain ⟨g, rfl, hg⟩ := hp75
        refine x_aload_n hC 1 rfl dX5_row_78 ?_
        refine x_get hC fl_X5_19 dX5_row_79 0 rfl rfl ?_
        refine x_get hC fl_X5_110 dX5_row_82 2 rfl (v := .int (nI (S 0 2 + 1))) rfl ?_
        exact x_iret hC hR dX5_row_85 (sp_leaf (by simp [sp_row, h8, h34, h53, tv]) (hI.rowc (nd v (S 0 1)) hf hg))
      · -- 53 F
        refine x_aload_n hC 1 rfl dX5_row_56 ?_
        refine x_bipush hC (v := (zI (-6))) dX5_row_57 rfl ?_
        refine x_callVI hC cw_X5_50 (c_X5_refuse (z := (-6)) (j := 6) (v := (S 1 6)) (by decide) (by decide) (hI.ref 6 (by decide))) dX5_row_59 [] rfl (Nat.le_of_ble_eq_true rfl) rfl (rm_ok hRm (by decide) (by decide)) 5 0 rfl rfl (fun r59 m59 hp59 => ?_)
        obtain ⟨rfl, rfl⟩ := hp59
        exact x_iret hC hR dX5_row_62 (sp_leaf (by simp [sp_row, h8, h34, Nat.not_lt.mpr h53, tv]) (hI.rfs 6 (by decide)))
    · -- 34 F
      refine x_aload_n hC 1 rfl dX5_row_37 ?_
      refine x_bipush hC (v := (zI (-3))) dX5_row_38 rfl ?_
      refine x_callVI hC cw_X5_50 (c_X5_refuse (z := (-3)) (j := 3) (v := (S 1 3)) (by decide) (by decide) (hI.ref 3 (by decide))) dX5_row_40 [] rfl (Nat.le_of_ble_eq_true rfl) rfl (rm_ok hRm (by decide) (by decide)) 5 0 rfl rfl (fun r40 m40 hp40 => ?_)
      obtain ⟨rfl, rfl⟩ := hp40
      exact x_iret hC hR dX5_row_43 (sp_leaf (by simp [sp_row, h8, h34, tv]) (hI.rfs 3 (by decide)))
  · -- 8 F
    refine x_aload_n hC 0 rfl dX5_row_11 ?_
    refine x_iconst hC (v := (zI (-1))) dX5_row_12 rfl ?_
    refine x_callVI hC cw_X5_50 (c_X5_refuse (z := (-1)) (j := 1) (v := (S 1 1)) (by decide) (by decide) (hI.ref 1 (by decide))) dX5_row_13 [] rfl (Nat.le_of_ble_eq_true rfl) rfl (rm_ok hRm (by decide) (by decide)) 5 0 rfl rfl (fun r13 m13 hp13 => ?_)
    obtain ⟨rfl, rfl⟩ := hp13
    exact x_iret hC hR dX5_row_16 (sp_leaf (by simp [sp_row, h8]) (hI.rfs 1 (by decide)))
set_option maxHeartbeats 4000000 in
set_option maxRecDepth 100000 in
theorem c_X5_distance {l : Launch} {D : va_G} {c : Nat → ClassId} {a : Nat → Nat} {μ : Me} {S : SS} (hI : XI μ S) (hV : SV S) : KI l D (tyE c) (xw c a) yX5_distance cX5_distance 1 .int (rmL 3) [.ref (a 0)] μ (fun r u => r = (sp_distance S).1 ∧ XI u (sp_distance S).2) := by
  refine x_enterI (by decide) (Nat.le_of_ble_eq_true rfl) (fun F hl hD hn hRm hC hR => ?_)
  subst hl hD
  change XW F 0 0 (xw c a μ) [(0, .ref (a 0))] 0 []
  change FC F cX5_distance RX5 (tyE c) at hC
  have hn1 := hV.n1
  have hn2 := hV.n2
  have hpn := hV.pn
  have hk6 := hV.k
  have hpk := hV.pk
  have hpk1 := SV.pk1 S
  have hch8 := hV.chips
  have hmk := hV.mask
  have hmk31 : S 0 1 < 2 ^ 31 := by omega
  have hX11 := hI.words
  have hWb : ∀ j, j < 2 ^ S 0 2 → cw S j < 16384 := fun j _ => cw_lt hV j
  refine x_aload_n hC 0 rfl dX5_distance_0 ?_
  refine x_get hC fl_X5_19 dX5_distance_1 0 rfl rfl ?_
  refine x_callVI hC cw_X5_119 (c_X2_fewestBits  (k := (S 0 2)) (W := (cw S)) (by first | assumption | exact hI.n | exact hI.mask | exact hI.k | exact hI.chips | omega) (by first | assumption | exact hI.n | exact hI.mask | exact hI.k | exact hI.chips | omega) (by first | assumption | exact hI.n | exact hI.mask | exact hI.k | exact hI.chips | omega) (by first | assumption | exact hI.n | exact hI.mask | exact hI.k | exact hI.chips | omega)) dX5_distance_4 [] rfl (Nat.le_of_ble_eq_true rfl) rfl (rm_ok hRm (by decide) (by decide)) 2 2 rfl rfl (fun r4 m4 hp4 => ?_)
  obtain ⟨rfl, rfl⟩ := hp4
  exact x_iret hC hR dX5_distance_7 (sp_leaf (by simp [sp_distance]) (hI))
set_option maxHeartbeats 4000000 in
set_option maxRecDepth 100000 in
theorem c_X5_codeword {l : Launch} {D : va_G} {c : Nat → ClassId} {a : Nat → Nat} {μ : Me} {x : Int32} {S : SS} (hI : XI μ S) (hV : SV S) : KI l D (tyE c) (xw c a) yX5_codeword cX5_codeword 2 .int (rmL 3) [.ref (a 0), .int x] μ (fun r u => r = (sp_codeword S x).1 ∧ XI u (sp_codeword S x).2) := by
  refine x_enterI (by decide) (Nat.le_of_ble_eq_true rfl) (fun F hl hD hn hRm hC hR => ?_)
  subst hl hD
  change XW F 0 0 (xw c a μ) [(0, .ref (a 0)), (1, .int x)] 0 []
  change FC F cX5_codeword RX5 (tyE c) at hC
  have hn1 := hV.n1
  have hn2 := hV.n2
  have hpn := hV.pn
  have hk6 := hV.k
  have hpk := hV.pk
  have hpk1 := SV.pk1 S
  have hch8 := hV.chips
  have hmk := hV.mask
  have hmk31 : S 0 1 < 2 ^ 31 := by omega
  have hX11 := hI.words
  have hWb : ∀ j, j < 2 ^ S 0 2 → cw S j < 16384 := fun j _ => cw_lt hV j
  refine x_aload_n hC 0 rfl dX5_codeword_0 ?_
  refine x_get hC fl_X5_19 dX5_codeword_1 0 rfl rfl ?_
  refine x_iload_n hC 1 rfl dX5_codeword_4 ?_
  refine x_callVI hC cw_X5_123 (c_X2_isKey (x := x) (k := (S 0 2)) (by first | assumption | exact hI.n | exact hI.mask | exact hI.k | exact hI.chips | omega) (by first | assumption | exact hI.n | exact hI.mask | exact hI.k | exact hI.chips | omega)) dX5_codeword_5 [] rfl (Nat.le_of_ble_eq_true rfl) rfl (rm_ok hRm (by decide) (by decide)) 2 2 rfl rfl (fun r5 m5 hp5 => ?_)
  obtain ⟨rfl, rfl⟩ := hp5
  refine x_if_eqB hC 23 dX5_codeword_8 rfl (fun h8 => ?_) (fun h8 => ?_)
  · -- 8 T
    refine x_aload_n hC 0 rfl dX5_codeword_23 ?_
    refine x_iconst hC (v := (zI (-1))) dX5_codeword_24 rfl ?_
    refine x_callVI hC cw_X5_50 (c_X5_refuse (z := (-1)) (j := 1) (v := (S 1 1)) (by decide) (by decide) (hI.ref 1 (by decide))) dX5_codeword_25 [] rfl (Nat.le_of_ble_eq_true rfl) rfl (rm_ok hRm (by decide) (by decide)) 5 0 rfl rfl (fun r25 m25 hp25 => ?_)
    obtain ⟨rfl, rfl⟩ := hp25
    exact x_iret hC hR dX5_codeword_28 (sp_leaf (by simp [sp_codeword, h8]) (hI.rfs 1 (by decide)))
  · -- 8 F
    obtain ⟨v, hv, rfl⟩ := isI_T h8
    have tv := tn_nI (v := v) (by omega)
    refine x_aload_n hC 0 rfl dX5_codeword_11 ?_
    refine x_get hC fl_X5_19 dX5_codeword_12 0 rfl rfl ?_
    refine x_get hC fl_X5_126 dX5_codeword_15 2 rfl rfl ?_
    refine x_iload_n hC 1 rfl dX5_codeword_18 ?_
    refine x_iald hC 11 0 rfl rfl (y := (nI (cw S v))) (by omega) (by decide) (hI.words v (by omega)) dX5_codeword_19 ?_
    refine x_goto hC 28 dX5_codeword_20 rfl ?_
    exact x_iret hC hR dX5_codeword_28 (sp_leaf (by simp [sp_codeword, h8, tv]) (hI))
set_option maxHeartbeats 4000000 in
set_option maxRecDepth 100000 in
theorem c_X5_mended {l : Launch} {D : va_G} {c : Nat → ClassId} {a : Nat → Nat} {μ : Me} {x : Int32} {S : SS} (hI : XI μ S) (hV : SV S) : KI l D (tyE c) (xw c a) yX5_mended cX5_mended 2 .int (rmL 3) [.ref (a 0), .int x] μ (fun r u => r = (sp_mended S x).1 ∧ XI u (sp_mended S x).2) := by
  refine x_enterI (by decide) (Nat.le_of_ble_eq_true rfl) (fun F hl hD hn hRm hC hR => ?_)
  subst hl hD
  change XW F 0 0 (xw c a μ) [(0, .ref (a 0)), (1, .int x)] 0 []
  change FC F cX5_mended RX5 (tyE c) at hC
  have hn1 := hV.n1
  have hn2 := hV.n2
  have hpn := hV.pn
  have hk6 := hV.k
  have hpk := hV.pk
  have hpk1 := SV.pk1 S
  have hch8 := hV.chips
  have hmk := hV.mask
  have hmk31 : S 0 1 < 2 ^ 31 := by omega
  have hX11 := hI.words
  have hWb : ∀ j, j < 2 ^ S 0 2 → cw S j < 16384 := fun j _ => cw_lt hV j
  refine x_aload_n hC 0 rfl dX5_mended_0 ?_
  refine x_get hC fl_X5_10 dX5_mended_1 0 rfl rfl ?_
  refine x_iload_n hC 1 rfl dX5_mended_4 ?_
  refine x_callVI hC cw_X5_67 (c_X0_isWord (x := x) (n := (S 0 0)) (by first | assumption | exact hI.n | exact hI.mask | exact hI.k | exact hI.chips | omega) (by first | assumption | exact hI.n | exact hI.mask | exact hI.k | exact hI.chips | omega)) dX5_mended_5 [] rfl (Nat.le_of_ble_eq_true rfl) rfl (rm_ok hRm (by decide) (by decide)) 0 1 rfl rfl (fun r5 m5 hp5 => ?_)
  obtain ⟨rfl, rfl⟩ := hp5
  refine x_if_eqB hC 29 dX5_mended_8 rfl (fun h8 => ?_) (fun h8 => ?_)
  · -- 8 T
    refine x_aload_n hC 0 rfl dX5_mended_29 ?_
    refine x_iconst hC (v := (zI (-1))) dX5_mended_30 rfl ?_
    refine x_callVI hC cw_X5_50 (c_X5_refuse (z := (-1)) (j := 1) (v := (S 1 1)) (by decide) (by decide) (hI.ref 1 (by decide))) dX5_mended_31 [] rfl (Nat.le_of_ble_eq_true rfl) rfl (rm_ok hRm (by decide) (by decide)) 5 0 rfl rfl (fun r31 m31 hp31 => ?_)
    obtain ⟨rfl, rfl⟩ := hp31
    exact x_iret hC hR dX5_mended_34 (sp_leaf (by simp [sp_mended, h8, mend_eq]) (hI.rfs 1 (by decide)))
  · -- 8 F
    obtain ⟨v, hv, rfl⟩ := isI_T h8
    have tv := tn_nI (v := v) (by omega)
    refine x_aload_n hC 0 rfl dX5_mended_11 ?_
    refine x_get hC fl_X5_19 dX5_mended_12 0 rfl rfl ?_
    refine x_aload_n hC 0 rfl dX5_mended_15 ?_
    refine x_get hC fl_X5_10 dX5_mended_16 0 rfl rfl ?_
    refine x_iload_n hC 1 rfl dX5_mended_19 ?_
    refine x_callVI hC cw_X5_104 (c_X0_open (w := v) (m := (S 0 1)) (by first | assumption | exact hI.n | exact hI.mask | exact hI.k | exact hI.chips | omega)) dX5_mended_20 [.ref (a 2)] rfl (Nat.le_of_ble_eq_true rfl) rfl (rm_ok hRm (by decide) (by decide)) 0 1 rfl rfl (fun r20 m20 hp20 => ?_)
    obtain ⟨rfl, rfl⟩ := hp20
    refine x_callVI hC cw_X5_129 (c_X2_nearestKey (w := (nd v (S 0 1))) (k := (S 0 2)) (W := (cw S)) hI.k hk6 hX11 hWb (by have := nd_le v (S 0 1); omega)) dX5_mended_23 [] rfl (Nat.le_of_ble_eq_true rfl) rfl (rm_ok hRm (by decide) (by decide)) 2 2 rfl rfl (fun r23 m23 hp23 => ?_)
    obtain ⟨rfl, rfl⟩ := hp23
    refine x_goto hC 34 dX5_mended_26 rfl ?_
    exact x_iret hC hR dX5_mended_34 (sp_leaf (by simp [sp_mended, h8, tv, mend_eq]) (hI))
set_option maxHeartbeats 4000000 in
set_option maxRecDepth 100000 in
theorem c_X5_clear {l : Launch} {D : va_G} {c : Nat → ClassId} {a : Nat → Nat} {μ : Me} {x : Int32} {S : SS} (hI : XI μ S) (hV : SV S) : KI l D (tyE c) (xw c a) yX5_clear cX5_clear 2 .int (rmL 4) [.ref (a 0), .int x] μ (fun r u => r = (sp_clear S x).1 ∧ XI u (sp_clear S x).2) := by
  refine x_enterI (by decide) (Nat.le_of_ble_eq_true rfl) (fun F hl hD hn hRm hC hR => ?_)
  subst hl hD
  change XW F 0 0 (xw c a μ) [(0, .ref (a 0)), (1, .int x)] 0 []
  change FC F cX5_clear RX5 (tyE c) at hC
  have hn1 := hV.n1
  have hn2 := hV.n2
  have hpn := hV.pn
  have hk6 := hV.k
  have hpk := hV.pk
  have hpk1 := SV.pk1 S
  have hch8 := hV.chips
  have hmk := hV.mask
  have hmk31 : S 0 1 < 2 ^ 31 := by omega
  have hX11 := hI.words
  have hWb : ∀ j, j < 2 ^ S 0 2 → cw S j < 16384 := fun j _ => cw_lt hV j
  refine x_aload_n hC 0 rfl dX5_clear_0 ?_
  refine x_get hC fl_X5_10 dX5_clear_1 0 rfl rfl ?_
  refine x_iload_n hC 1 rfl dX5_clear_4 ?_
  refine x_callVI hC cw_X5_67 (c_X0_isWord (x := x) (n := (S 0 0)) (by first | assumption | exact hI.n | exact hI.mask | exact hI.k | exact hI.chips | omega) (by first | assumption | exact hI.n | exact hI.mask | exact hI.k | exact hI.chips | omega)) dX5_clear_5 [] rfl (Nat.le_of_ble_eq_true rfl) rfl (rm_ok hRm (by decide) (by decide)) 0 1 rfl rfl (fun r5 m5 hp5 => ?_)
  obtain ⟨rfl, rfl⟩ := hp5
  refine x_if_neB hC 17 dX5_clear_8 rfl (fun h8 => ?_) (fun h8 => ?_)
  · -- 8 T
    obtain ⟨v, hv, rfl⟩ := isI_T h8
    have tv := tn_nI (v := v) (by omega)
    refine x_aload_n hC 0 rfl dX5_clear_17 ?_
    refine x_get hC fl_X5_19 dX5_clear_18 0 rfl rfl ?_
    refine x_aload_n hC 0 rfl dX5_clear_21 ?_
    refine x_get hC fl_X5_10 dX5_clear_22 0 rfl rfl ?_
    refine x_iload_n hC 1 rfl dX5_clear_25 ?_
    refine x_callVI hC cw_X5_104 (c_X0_open (w := v) (m := (S 0 1)) (by first | assumption | exact hI.n | exact hI.mask | exact hI.k | exact hI.chips | omega)) dX5_clear_26 [.ref (a 2)] rfl (Nat.le_of_ble_eq_true rfl) rfl (rm_ok hRm (by decide) (by decide)) 0 1 rfl rfl (fun r26 m26 hp26 => ?_)
    obtain ⟨rfl, rfl⟩ := hp26
    refine x_callVI hC cw_X5_132 (c_X2_hasOneNearest (w := (nd v (S 0 1))) (k := (S 0 2)) (W := (cw S)) hI.k hk6 hX11 hWb (by have := nd_le v (S 0 1); omega)) dX5_clear_29 [] rfl (Nat.le_of_ble_eq_true rfl) rfl (rm_ok hRm (by decide) (by decide)) 2 2 rfl rfl (fun r29 m29 hp29 => ?_)
    obtain ⟨rfl, rfl⟩ := hp29
    refine x_if_eqB hC 39 dX5_clear_32 rfl (fun h32 => ?_) (fun h32 => ?_)
    · -- 32 T
      refine x_iconst hC (v := (nI 0)) dX5_clear_39 rfl ?_
      exact x_iret hC hR dX5_clear_40 (sp_leaf (by simp only [sp_clear, h8, tv, if_true, clr_eq, h32]; rfl) hI)
    · -- 32 F
      refine x_iconst hC (v := (nI 1)) dX5_clear_35 rfl ?_
      refine x_goto hC 40 dX5_clear_36 rfl ?_
      exact x_iret hC hR dX5_clear_40 (sp_leaf (by simp only [sp_clear, h8, tv, if_true, clr_eq, h32]; rfl) hI)
  · -- 8 F
    refine x_aload_n hC 0 rfl dX5_clear_11 ?_
    refine x_iconst hC (v := (zI (-1))) dX5_clear_12 rfl ?_
    refine x_callVI hC cw_X5_50 (c_X5_refuse (z := (-1)) (j := 1) (v := (S 1 1)) (by decide) (by decide) (hI.ref 1 (by decide))) dX5_clear_13 [] rfl (Nat.le_of_ble_eq_true rfl) rfl (rm_ok hRm (by decide) (by decide)) 5 0 rfl rfl (fun r13 m13 hp13 => ?_)
    obtain ⟨rfl, rfl⟩ := hp13
    exact x_iret hC hR dX5_clear_16 (sp_leaf (by simp [sp_clear, h8]) (hI.rfs 1 (by decide)))
set_option maxHeartbeats 4000000 in
set_option maxRecDepth 100000 in
theorem c_X5_enrol {l : Launch} {D : va_G} {c : Nat → ClassId} {a : Nat → Nat} {μ : Me} {x : Int32} {key : Int32} {S : SS} (hI : XI μ S) (hV : SV S) : KI l D (tyE c) (xw c a) yX5_enrol cX5_enrol 4 .int (rmL 3) [.ref (a 0), .int x, .int key] μ (fun r u => r = (sp_enrol S x key).1 ∧ XI u (sp_enrol S x key).2) := by
  refine x_enterI (by decide) (Nat.le_of_ble_eq_true rfl) (fun F hl hD hn hRm hC hR => ?_)
  subst hl hD
  change XW F 0 0 (xw c a μ) [(0, .ref (a 0)), (1, .int x), (2, .int key)] 0 []
  change FC F cX5_enrol RX5 (tyE c) at hC
  have hn1 := hV.n1
  have hn2 := hV.n2
  have hpn := hV.pn
  have hk6 := hV.k
  have hpk := hV.pk
  have hpk1 := SV.pk1 S
  have hch8 := hV.chips
  have hmk := hV.mask
  have hmk31 : S 0 1 < 2 ^ 31 := by omega
  have hX11 := hI.words
  have hWb : ∀ j, j < 2 ^ S 0 2 → cw S j < 16384 := fun j _ => cw_lt hV j
  have hX12 : ∀ j, j < S 0 3 → μ 12 j = nI (S 5 j) := fun j h => (hI.chip j h).1
  refine x_aload_n hC 0 rfl dX5_enrol_0 ?_
  refine x_get hC fl_X5_26 dX5_enrol_1 0 rfl rfl ?_
  refine x_iload_n hC 1 rfl dX5_enrol_4 ?_
  refine x_callVI hC cw_X5_135 (c_X1_isChip (x := x) (m := (S 0 3)) hI.chips hch8) dX5_enrol_5 [] rfl (Nat.le_of_ble_eq_true rfl) rfl (rm_ok hRm (by decide) (by decide)) 1 3 rfl rfl (fun r5 m5 hp5 => ?_)
  obtain ⟨rfl, rfl⟩ := hp5
  refine x_if_eqB hC 22 dX5_enrol_8 rfl (fun h8 => ?_) (fun h8 => ?_)
  · -- 8 T
    refine x_aload_n hC 0 rfl dX5_enrol_22 ?_
    refine x_iconst hC (v := (zI (-1))) dX5_enrol_23 rfl ?_
    refine x_callVI hC cw_X5_50 (c_X5_refuse (z := (-1)) (j := 1) (v := (S 1 1)) (by decide) (by decide) (hI.ref 1 (by decide))) dX5_enrol_24 [] rfl (Nat.le_of_ble_eq_true rfl) rfl (rm_ok hRm (by decide) (by decide)) 5 0 rfl rfl (fun r24 m24 hp24 => ?_)
    obtain ⟨rfl, rfl⟩ := hp24
    exact x_iret hC hR dX5_enrol_27 (sp_leaf (by simp [sp_enrol, h8]) (hI.rfs 1 (by decide)))
  · -- 8 F
    obtain ⟨v, hv, rfl⟩ := isI_T h8
    have tv := tn_nI (v := v) (by omega)
    refine x_aload_n hC 0 rfl dX5_enrol_11 ?_
    refine x_get hC fl_X5_19 dX5_enrol_12 0 rfl rfl ?_
    refine x_iload_n hC 2 rfl dX5_enrol_15 ?_
    refine x_callVI hC cw_X5_123 (c_X2_isKey (x := key) (k := (S 0 2)) (by first | assumption | exact hI.n | exact hI.mask | exact hI.k | exact hI.chips | omega) (by first | assumption | exact hI.n | exact hI.mask | exact hI.k | exact hI.chips | omega)) dX5_enrol_16 [] rfl (Nat.le_of_ble_eq_true rfl) rfl (rm_ok hRm (by decide) (by decide)) 2 2 rfl rfl (fun r16 m16 hp16 => ?_)
    obtain ⟨rfl, rfl⟩ := hp16
    refine x_if_neB hC 28 dX5_enrol_19 rfl (fun h19 => ?_) (fun h19 => ?_)
    · -- 19 T
      obtain ⟨y, hy, rfl⟩ := isI_T h19
      have ty := tn_nI (v := y) (by omega)
      refine x_aload_n hC 0 rfl dX5_enrol_28 ?_
      refine x_get hC fl_X5_10 dX5_enrol_29 0 rfl rfl ?_
      refine x_aload_n hC 0 rfl dX5_enrol_32 ?_
      refine x_get hC fl_X5_26 dX5_enrol_33 0 rfl rfl ?_
      refine x_get hC fl_X5_138 dX5_enrol_36 3 rfl rfl ?_
      refine x_iload_n hC 1 rfl dX5_enrol_39 ?_
      refine x_iald hC 12 0 rfl rfl (y := (nI (S 5 v))) (by omega) (by decide) ((hI.chip v (by omega)).1) dX5_enrol_40 ?_
      refine x_callVI hC cw_X5_104 (c_X0_open (w := (S 5 v)) (m := (S 0 1)) (by first | assumption | exact hI.n | exact hI.mask | exact hI.k | exact hI.chips | omega)) dX5_enrol_41 [] rfl (Nat.le_of_ble_eq_true rfl) rfl (rm_ok hRm (by decide) (by decide)) 0 1 rfl rfl (fun r41 m41 hp41 => ?_)
      obtain ⟨rfl, rfl⟩ := hp41
      refine x_aload_n hC 0 rfl dX5_enrol_44 ?_
      refine x_get hC fl_X5_19 dX5_enrol_45 0 rfl rfl ?_
      refine x_get hC fl_X5_126 dX5_enrol_48 2 rfl rfl ?_
      refine x_iload_n hC 2 rfl dX5_enrol_51 ?_
      refine x_iald hC 11 0 rfl rfl (y := (nI (cw S y))) (by omega) (by decide) (hI.words y (by omega)) dX5_enrol_52 ?_
      refine x_ixorE hC (z := (nI ((nd (S 5 v) (S 0 1)) ^^^ (cw S y)))) (nI_xor _ _) dX5_enrol_53 ?_
      refine x_istore_n hC [(3, .int (nI ((nd (S 5 v) (S 0 1)) ^^^ (cw S y)))), (0, .ref (a 0)), (1, .int (nI v)), (2, .int (nI y))] rfl (lt_n hn rfl) dX5_enrol_54 ?_
      refine x_aload_n hC 1 rfl dX5_enrol_55 ?_
      refine x_get hC fl_X5_26 dX5_enrol_56 0 rfl rfl ?_
      refine x_iload_n hC 2 rfl dX5_enrol_59 ?_
      refine x_iload_n hC 0 rfl dX5_enrol_60 ?_
      refine x_iload_n hC 3 rfl dX5_enrol_61 ?_
      refine x_callVV hC cw_X5_141 (c_X1_giveHelp (i := v) (w := ((nd (S 5 v) (S 0 1)) ^^^ (cw S y))) (k := y)  (by omega)) dX5_enrol_62 [] rfl (Nat.le_of_ble_eq_true rfl) rfl (rm_ok hRm (by decide) (by decide)) 1 3 rfl rfl (fun m62 hp62 => ?_)
      subst hp62
      refine x_iload_n hC 0 rfl dX5_enrol_65 ?_
      exact x_iret hC hR dX5_enrol_66 (sp_leaf (by simp [sp_enrol, h8, h19, tv, ty]) (hI.helpc v _ y))
    · -- 19 F
      refine x_aload_n hC 0 rfl dX5_enrol_22 ?_
      refine x_iconst hC (v := (zI (-1))) dX5_enrol_23 rfl ?_
      refine x_callVI hC cw_X5_50 (c_X5_refuse (z := (-1)) (j := 1) (v := (S 1 1)) (by decide) (by decide) (hI.ref 1 (by decide))) dX5_enrol_24 [] rfl (Nat.le_of_ble_eq_true rfl) rfl (rm_ok hRm (by decide) (by decide)) 5 0 rfl rfl (fun r24 m24 hp24 => ?_)
      obtain ⟨rfl, rfl⟩ := hp24
      exact x_iret hC hR dX5_enrol_27 (sp_leaf (by simp [sp_enrol, h8, h19, tv]) (hI.rfs 1 (by decide)))
set_option maxHeartbeats 4000000 in
set_option maxRecDepth 100000 in
theorem c_X5_reading {l : Launch} {D : va_G} {c : Nat → ClassId} {a : Nat → Nat} {μ : Me} {x : Int32} {w : Int32} {S : SS} (hI : XI μ S) (hV : SV S) : KI l D (tyE c) (xw c a) yX5_reading cX5_reading 3 .int (rmL 3) [.ref (a 0), .int x, .int w] μ (fun r u => r = (sp_reading S x w).1 ∧ XI u (sp_reading S x w).2) := by
  refine x_enterI (by decide) (Nat.le_of_ble_eq_true rfl) (fun F hl hD hn hRm hC hR => ?_)
  subst hl hD
  change XW F 0 0 (xw c a μ) [(0, .ref (a 0)), (1, .int x), (2, .int w)] 0 []
  change FC F cX5_reading RX5 (tyE c) at hC
  have hn1 := hV.n1
  have hn2 := hV.n2
  have hpn := hV.pn
  have hk6 := hV.k
  have hpk := hV.pk
  have hpk1 := SV.pk1 S
  have hch8 := hV.chips
  have hmk := hV.mask
  have hmk31 : S 0 1 < 2 ^ 31 := by omega
  have hX11 := hI.words
  have hWb : ∀ j, j < 2 ^ S 0 2 → cw S j < 16384 := fun j _ => cw_lt hV j
  have hX12 : ∀ j, j < S 0 3 → μ 12 j = nI (S 5 j) := fun j h => (hI.chip j h).1
  refine x_aload_n hC 0 rfl dX5_reading_0 ?_
  refine x_get hC fl_X5_26 dX5_reading_1 0 rfl rfl ?_
  refine x_iload_n hC 1 rfl dX5_reading_4 ?_
  refine x_callVI hC cw_X5_135 (c_X1_isChip (x := x) (m := (S 0 3)) hI.chips hch8) dX5_reading_5 [] rfl (Nat.le_of_ble_eq_true rfl) rfl (rm_ok hRm (by decide) (by decide)) 1 3 rfl rfl (fun r5 m5 hp5 => ?_)
  obtain ⟨rfl, rfl⟩ := hp5
  refine x_if_eqB hC 22 dX5_reading_8 rfl (fun h8 => ?_) (fun h8 => ?_)
  · -- 8 T
    refine x_aload_n hC 0 rfl dX5_reading_22 ?_
    refine x_iconst hC (v := (zI (-1))) dX5_reading_23 rfl ?_
    refine x_callVI hC cw_X5_50 (c_X5_refuse (z := (-1)) (j := 1) (v := (S 1 1)) (by decide) (by decide) (hI.ref 1 (by decide))) dX5_reading_24 [] rfl (Nat.le_of_ble_eq_true rfl) rfl (rm_ok hRm (by decide) (by decide)) 5 0 rfl rfl (fun r24 m24 hp24 => ?_)
    obtain ⟨rfl, rfl⟩ := hp24
    exact x_iret hC hR dX5_reading_27 (sp_leaf (by simp [sp_reading, h8]) (hI.rfs 1 (by decide)))
  · -- 8 F
    obtain ⟨v, hv, rfl⟩ := isI_T h8
    have tv := tn_nI (v := v) (by omega)
    refine x_aload_n hC 0 rfl dX5_reading_11 ?_
    refine x_get hC fl_X5_10 dX5_reading_12 0 rfl rfl ?_
    refine x_iload_n hC 2 rfl dX5_reading_15 ?_
    refine x_callVI hC cw_X5_67 (c_X0_isWord (x := w) (n := (S 0 0)) (by first | assumption | exact hI.n | exact hI.mask | exact hI.k | exact hI.chips | omega) (by first | assumption | exact hI.n | exact hI.mask | exact hI.k | exact hI.chips | omega)) dX5_reading_16 [] rfl (Nat.le_of_ble_eq_true rfl) rfl (rm_ok hRm (by decide) (by decide)) 0 1 rfl rfl (fun r16 m16 hp16 => ?_)
    obtain ⟨rfl, rfl⟩ := hp16
    refine x_if_neB hC 28 dX5_reading_19 rfl (fun h19 => ?_) (fun h19 => ?_)
    · -- 19 T
      obtain ⟨y, hy, rfl⟩ := isI_T h19
      have ty := tn_nI (v := y) (by omega)
      refine x_aload_n hC 0 rfl dX5_reading_28 ?_
      refine x_get hC fl_X5_26 dX5_reading_29 0 rfl rfl ?_
      refine x_get hC fl_X5_145 dX5_reading_32 3 rfl rfl ?_
      refine x_iload_n hC 1 rfl dX5_reading_35 ?_
      refine x_zald hC 13 1 rfl rfl (y := (bz (decide (S 6 v = 1)))) (by omega) (by decide) ((hI.chip v (by omega)).2.1) dX5_reading_36 ?_
      refine x_if_neB hC 47 dX5_reading_37 rfl (fun h37 => ?_) (fun h37 => ?_)
      · -- 37 T
        have hhp := of_decide_eq_true h37
        have hmh := mend_help hV hv hhp (v := y)
        refine x_aload_n hC 0 rfl dX5_reading_47 ?_
        refine x_get hC fl_X5_19 dX5_reading_48 0 rfl rfl ?_
        refine x_aload_n hC 0 rfl dX5_reading_51 ?_
        refine x_get hC fl_X5_10 dX5_reading_52 0 rfl rfl ?_
        refine x_iload_n hC 2 rfl dX5_reading_55 ?_
        refine x_callVI hC cw_X5_104 (c_X0_open (w := y) (m := (S 0 1)) (by first | assumption | exact hI.n | exact hI.mask | exact hI.k | exact hI.chips | omega)) dX5_reading_56 [.ref (a 2)] rfl (Nat.le_of_ble_eq_true rfl) rfl (rm_ok hRm (by decide) (by decide)) 0 1 rfl rfl (fun r56 m56 hp56 => ?_)
        obtain ⟨rfl, rfl⟩ := hp56
        refine x_aload_n hC 0 rfl dX5_reading_59 ?_
        refine x_get hC fl_X5_26 dX5_reading_60 0 rfl rfl ?_
        refine x_get hC fl_X5_149 dX5_reading_63 3 rfl rfl ?_
        refine x_iload_n hC 1 rfl dX5_reading_66 ?_
        refine x_iald hC 14 0 rfl rfl (y := (nI (S 7 v))) (by omega) (by decide) (((hI.chip v (by omega)).2.2 hhp).1) dX5_reading_67 ?_
        refine x_ixorE hC (z := (nI ((nd y (S 0 1)) ^^^ (S 7 v)))) (nI_xor _ _) dX5_reading_68 ?_
        refine x_callVI hC cw_X5_129 (c_X2_nearestKey (w := ((nd y (S 0 1)) ^^^ (S 7 v))) (k := (S 0 2)) (W := (cw S)) hI.k hk6 hX11 hWb (by have q1 := nd_le y (S 0 1); have q2 := ((hV.chip v hv).2.2 hhp).1; exact xor_lt14 (by omega) (by omega))) dX5_reading_69 [] rfl (Nat.le_of_ble_eq_true rfl) rfl (rm_ok hRm (by decide) (by decide)) 2 2 rfl rfl (fun r69 m69 hp69 => ?_)
        obtain ⟨rfl, rfl⟩ := hp69
        exact x_iret hC hR dX5_reading_72 (sp_leaf (by simp [sp_reading, h8, h19, hhp, tv, ty, hmh]) (hI))
      · -- 37 F
        have hhp := of_decide_eq_false h37
        refine x_aload_n hC 0 rfl dX5_reading_40 ?_
        refine x_bipush hC (v := (zI (-3))) dX5_reading_41 rfl ?_
        refine x_callVI hC cw_X5_50 (c_X5_refuse (z := (-3)) (j := 3) (v := (S 1 3)) (by decide) (by decide) (hI.ref 3 (by decide))) dX5_reading_43 [] rfl (Nat.le_of_ble_eq_true rfl) rfl (rm_ok hRm (by decide) (by decide)) 5 0 rfl rfl (fun r43 m43 hp43 => ?_)
        obtain ⟨rfl, rfl⟩ := hp43
        exact x_iret hC hR dX5_reading_46 (sp_leaf (by simp [sp_reading, h8, h19, hhp, tv, ty]) (hI.rfs 3 (by decide)))
    · -- 19 F
      refine x_aload_n hC 0 rfl dX5_reading_22 ?_
      refine x_iconst hC (v := (zI (-1))) dX5_reading_23 rfl ?_
      refine x_callVI hC cw_X5_50 (c_X5_refuse (z := (-1)) (j := 1) (v := (S 1 1)) (by decide) (by decide) (hI.ref 1 (by decide))) dX5_reading_24 [] rfl (Nat.le_of_ble_eq_true rfl) rfl (rm_ok hRm (by decide) (by decide)) 5 0 rfl rfl (fun r24 m24 hp24 => ?_)
      obtain ⟨rfl, rfl⟩ := hp24
      exact x_iret hC hR dX5_reading_27 (sp_leaf (by simp [sp_reading, h8, h19, tv]) (hI.rfs 1 (by decide)))
set_option maxHeartbeats 4000000 in
set_option maxRecDepth 100000 in
theorem c_X5_leak {l : Launch} {D : va_G} {c : Nat → ClassId} {a : Nat → Nat} {μ : Me} {S : SS} (hI : XI μ S) (hV : SV S) : KI l D (tyE c) (xw c a) yX5_leak cX5_leak 1 .int (rmL 4) [.ref (a 0)] μ (fun r u => r = (sp_leak S).1 ∧ XI u (sp_leak S).2) := by
  refine x_enterI (by decide) (Nat.le_of_ble_eq_true rfl) (fun F hl hD hn hRm hC hR => ?_)
  subst hl hD
  change XW F 0 0 (xw c a μ) [(0, .ref (a 0))] 0 []
  change FC F cX5_leak RX5 (tyE c) at hC
  have hn1 := hV.n1
  have hn2 := hV.n2
  have hpn := hV.pn
  have hk6 := hV.k
  have hpk := hV.pk
  have hpk1 := SV.pk1 S
  have hch8 := hV.chips
  have hmk := hV.mask
  have hmk31 : S 0 1 < 2 ^ 31 := by omega
  refine x_aload_n hC 0 rfl dX5_leak_0 ?_
  refine x_get hC fl_X5_10 dX5_leak_1 0 rfl rfl ?_
  refine x_callVI hC cw_X5_190 (c_X0_openCells  (n := (S 0 0)) (m := (S 0 1)) (by first | assumption | exact hI.n | exact hI.mask | exact hI.k | exact hI.chips | omega) (by first | assumption | exact hI.n | exact hI.mask | exact hI.k | exact hI.chips | omega) (by first | assumption | exact hI.n | exact hI.mask | exact hI.k | exact hI.chips | omega)) dX5_leak_4 [] rfl (Nat.le_of_ble_eq_true rfl) rfl (rm_ok hRm (by decide) (by decide)) 0 1 rfl rfl (fun r4 m4 hp4 => ?_)
  obtain ⟨rfl, rfl⟩ := hp4
  refine x_aload_n hC 0 rfl dX5_leak_7 ?_
  refine x_get hC fl_X5_19 dX5_leak_8 0 rfl rfl ?_
  refine x_get hC fl_X5_110 dX5_leak_11 2 rfl (v := .int (nI (S 0 2))) (xv hI.k) ?_
  refine x_isubE hC (z := (zI ((((pc (nd (2 ^ (S 0 0) - 1) (S 0 1))) : Nat) : Int) - (((S 0 2) : Nat) : Int)))) (zI_sub (((pc (nd (2 ^ (S 0 0) - 1) (S 0 1))) : Nat) : Int) (((S 0 2) : Nat) : Int)) dX5_leak_14 ?_
  exact x_iret hC hR dX5_leak_15 (sp_leaf (by simp [sp_leak, opn]) (hI))
set_option maxHeartbeats 4000000 in
set_option maxRecDepth 100000 in
theorem c_X5_expected {l : Launch} {D : va_G} {c : Nat → ClassId} {a : Nat → Nat} {μ : Me} {S : SS} (hI : XI μ S) (hV : SV S) : KI l D (tyE c) (xw c a) yX5_expected cX5_expected 1 .int (rmL 4) [.ref (a 0)] μ (fun r u => r = (sp_expected S).1 ∧ XI u (sp_expected S).2) := by
  refine x_enterI (by decide) (Nat.le_of_ble_eq_true rfl) (fun F hl hD hn hRm hC hR => ?_)
  subst hl hD
  change XW F 0 0 (xw c a μ) [(0, .ref (a 0))] 0 []
  change FC F cX5_expected RX5 (tyE c) at hC
  have hn1 := hV.n1
  have hn2 := hV.n2
  have hpn := hV.pn
  have hk6 := hV.k
  have hpk := hV.pk
  have hpk1 := SV.pk1 S
  have hch8 := hV.chips
  have hmk := hV.mask
  have hmk31 : S 0 1 < 2 ^ 31 := by omega
  have hX10 := hI.le
  have hle8 : ∀ j, j < 14 → S 4 j ≤ 8 := fun j h => by have := (hV.told j h).2.2.2; omega
  refine x_aload_n hC 0 rfl dX5_expected_0 ?_
  refine x_get hC fl_X5_10 dX5_expected_1 0 rfl rfl ?_
  refine x_callVI hC cw_X5_204 (c_X0_expectedEvenBits  (n := (S 0 0)) (m := (S 0 1)) (le := (S 4)) (by first | assumption | exact hI.n | exact hI.mask | exact hI.k | exact hI.chips | omega) (by first | assumption | exact hI.n | exact hI.mask | exact hI.k | exact hI.chips | omega) (by first | assumption | exact hI.n | exact hI.mask | exact hI.k | exact hI.chips | omega) (by first | assumption | exact hI.n | exact hI.mask | exact hI.k | exact hI.chips | omega) (by first | assumption | exact hI.n | exact hI.mask | exact hI.k | exact hI.chips | omega) (by first | assumption | exact hI.n | exact hI.mask | exact hI.k | exact hI.chips | omega)) dX5_expected_4 [] rfl (Nat.le_of_ble_eq_true rfl) rfl (rm_ok hRm (by decide) (by decide)) 0 1 rfl rfl (fun r4 m4 hp4 => ?_)
  obtain ⟨rfl, rfl⟩ := hp4
  exact x_iret hC hR dX5_expected_7 (sp_leaf (by simp [sp_expected]) (hI))
set_option maxHeartbeats 4000000 in
set_option maxRecDepth 100000 in
theorem c_X5_odd {l : Launch} {D : va_G} {c : Nat → ClassId} {a : Nat → Nat} {μ : Me} {x : Int32} {S : SS} (hI : XI μ S) (hV : SV S) : KI l D (tyE c) (xw c a) yX5_odd cX5_odd 2 .int (rmL 2) [.ref (a 0), .int x] μ (fun r u => r = (sp_odd S x).1 ∧ XI u (sp_odd S x).2) := by
  refine x_enterI (by decide) (Nat.le_of_ble_eq_true rfl) (fun F hl hD hn hRm hC hR => ?_)
  subst hl hD
  change XW F 0 0 (xw c a μ) [(0, .ref (a 0)), (1, .int x)] 0 []
  change FC F cX5_odd RX5 (tyE c) at hC
  have hn1 := hV.n1
  have hn2 := hV.n2
  have hpn := hV.pn
  have hk6 := hV.k
  have hpk := hV.pk
  have hpk1 := SV.pk1 S
  have hch8 := hV.chips
  have hmk := hV.mask
  have hmk31 : S 0 1 < 2 ^ 31 := by omega
  have hX12 : ∀ j, j < S 0 3 → μ 12 j = nI (S 5 j) := fun j h => (hI.chip j h).1
  refine x_aload_n hC 0 rfl dX5_odd_0 ?_
  refine x_get hC fl_X5_10 dX5_odd_1 0 rfl rfl ?_
  refine x_iload_n hC 1 rfl dX5_odd_4 ?_
  refine x_callVI hC cw_X5_87 (c_X0_isCell (x := x) (n := (S 0 0)) (by first | assumption | exact hI.n | exact hI.mask | exact hI.k | exact hI.chips | omega) (by first | assumption | exact hI.n | exact hI.mask | exact hI.k | exact hI.chips | omega)) dX5_odd_5 [] rfl (Nat.le_of_ble_eq_true rfl) rfl (rm_ok hRm (by decide) (by decide)) 0 1 rfl rfl (fun r5 m5 hp5 => ?_)
  obtain ⟨rfl, rfl⟩ := hp5
  refine x_if_eqB hC 22 dX5_odd_8 rfl (fun h8 => ?_) (fun h8 => ?_)
  · -- 8 T
    refine x_aload_n hC 0 rfl dX5_odd_22 ?_
    refine x_iconst hC (v := (zI (-1))) dX5_odd_23 rfl ?_
    refine x_callVI hC cw_X5_50 (c_X5_refuse (z := (-1)) (j := 1) (v := (S 1 1)) (by decide) (by decide) (hI.ref 1 (by decide))) dX5_odd_24 [] rfl (Nat.le_of_ble_eq_true rfl) rfl (rm_ok hRm (by decide) (by decide)) 5 0 rfl rfl (fun r24 m24 hp24 => ?_)
    obtain ⟨rfl, rfl⟩ := hp24
    exact x_iret hC hR dX5_odd_27 (sp_leaf (by simp [sp_odd, h8]) (hI.rfs 1 (by decide)))
  · -- 8 F
    obtain ⟨v, hv, rfl⟩ := isI_T h8
    have tv := tn_nI (v := v) (by omega)
    refine x_aload_n hC 0 rfl dX5_odd_11 ?_
    refine x_get hC fl_X5_26 dX5_odd_12 0 rfl rfl ?_
    refine x_iload_n hC 1 rfl dX5_odd_15 ?_
    refine x_callVI hC cw_X5_255 (c_X1_onesAt (t := v) (m := (S 0 3)) (nm := (S 5)) hI.chips hch8 hX12 (fun j h => by have := (hV.chip j h).1; omega) (by omega)) dX5_odd_16 [] rfl (Nat.le_of_ble_eq_true rfl) rfl (rm_ok hRm (by decide) (by decide)) 1 3 rfl rfl (fun r16 m16 hp16 => ?_)
    obtain ⟨rfl, rfl⟩ := hp16
    refine x_goto hC 27 dX5_odd_19 rfl ?_
    exact x_iret hC hR dX5_odd_27 (sp_leaf (by simp [sp_odd, h8, tv]) (hI))
set_option maxHeartbeats 4000000 in
set_option maxRecDepth 100000 in
theorem c_X5_whose {l : Launch} {D : va_G} {c : Nat → ClassId} {a : Nat → Nat} {μ : Me} {x : Int32} {S : SS} (hI : XI μ S) (hV : SV S) : KI l D (tyE c) (xw c a) yX5_whose cX5_whose 3 .int (rmL 3) [.ref (a 0), .int x] μ (fun r u => r = (sp_whose S x).1 ∧ XI u (sp_whose S x).2) := by
  refine x_enterI (by decide) (Nat.le_of_ble_eq_true rfl) (fun F hl hD hn hRm hC hR => ?_)
  subst hl hD
  change XW F 0 0 (xw c a μ) [(0, .ref (a 0)), (1, .int x)] 0 []
  change FC F cX5_whose RX5 (tyE c) at hC
  have hn1 := hV.n1
  have hn2 := hV.n2
  have hpn := hV.pn
  have hk6 := hV.k
  have hpk := hV.pk
  have hpk1 := SV.pk1 S
  have hch8 := hV.chips
  have hmk := hV.mask
  have hmk31 : S 0 1 < 2 ^ 31 := by omega
  have hX12 : ∀ j, j < S 0 3 → μ 12 j = nI (S 5 j) := fun j h => (hI.chip j h).1
  refine x_aload_n hC 0 rfl dX5_whose_0 ?_
  refine x_get hC fl_X5_10 dX5_whose_1 0 rfl rfl ?_
  refine x_iload_n hC 1 rfl dX5_whose_4 ?_
  refine x_callVI hC cw_X5_67 (c_X0_isWord (x := x) (n := (S 0 0)) (by first | assumption | exact hI.n | exact hI.mask | exact hI.k | exact hI.chips | omega) (by first | assumption | exact hI.n | exact hI.mask | exact hI.k | exact hI.chips | omega)) dX5_whose_5 [] rfl (Nat.le_of_ble_eq_true rfl) rfl (rm_ok hRm (by decide) (by decide)) 0 1 rfl rfl (fun r5 m5 hp5 => ?_)
  obtain ⟨rfl, rfl⟩ := hp5
  refine x_if_neB hC 17 dX5_whose_8 rfl (fun h8 => ?_) (fun h8 => ?_)
  · -- 8 T
    obtain ⟨v, hv, rfl⟩ := isI_T h8
    have tv := tn_nI (v := v) (by omega)
    refine x_aload_n hC 0 rfl dX5_whose_17 ?_
    refine x_get hC fl_X5_26 dX5_whose_18 0 rfl rfl ?_
    refine x_iload_n hC 1 rfl dX5_whose_21 ?_
    refine x_aload_n hC 0 rfl dX5_whose_22 ?_
    refine x_get hC fl_X5_10 dX5_whose_23 0 rfl rfl ?_
    refine x_callVI hC cw_X5_242 (c_X0_openSet  (n := (S 0 0)) (m := (S 0 1)) (by first | assumption | exact hI.n | exact hI.mask | exact hI.k | exact hI.chips | omega) (by first | assumption | exact hI.n | exact hI.mask | exact hI.k | exact hI.chips | omega) (by first | assumption | exact hI.n | exact hI.mask | exact hI.k | exact hI.chips | omega)) dX5_whose_26 [.int (nI v), .ref (a 3)] rfl (Nat.le_of_ble_eq_true rfl) rfl (rm_ok hRm (by decide) (by decide)) 0 1 rfl rfl (fun r26 m26 hp26 => ?_)
    obtain ⟨rfl, rfl⟩ := hp26
    refine x_callVI hC cw_X5_245 (c_X1_nearest (w := v) (op := (nd (2 ^ (S 0 0) - 1) (S 0 1))) (m := (S 0 3)) (nm := (S 5)) hI.chips hch8 hX12 (by omega) (opn_lt hV)) dX5_whose_29 [] rfl (Nat.le_of_ble_eq_true rfl) rfl (rm_ok hRm (by decide) (by decide)) 1 3 rfl rfl (fun r29 m29 hp29 => ?_)
    obtain ⟨hqhp29, rfl⟩ := hp29
    rcases hqhp29 with ⟨hm0, rfl⟩ | ⟨hm0, rfl⟩
    · skip
      refine x_istore_n hC [(2, .int (zI (-1))), (0, .ref (a 0)), (1, .int (nI v))] rfl (lt_n hn rfl) dX5_whose_32 ?_
      refine x_iload_n hC 0 rfl dX5_whose_33 ?_
      refine x_if_ge_F hC 42 dX5_whose_34 rfl (by decide) ?_
      refine x_bipush hC (v := (zI (-9))) dX5_whose_37 rfl ?_
      refine x_goto hC 43 dX5_whose_39 rfl ?_
      exact x_iret hC hR dX5_whose_43 (sp_leaf (by simp [sp_whose, h8, tv, hm0, opn, chd]) (hI))
    · skip
      refine x_istore_n hC [(2, .int (nI (amin (fun j => pc (((S 5) j ^^^ v) &&& (nd (2 ^ (S 0 0) - 1) (S 0 1)))) (S 0 3)))), (0, .ref (a 0)), (1, .int (nI v))] rfl (lt_n hn rfl) dX5_whose_32 ?_
      refine x_iload_n hC 0 rfl dX5_whose_33 ?_
      refine x_if_ge_T hC 42 dX5_whose_34 rfl (by rw [i32_le, i32_0, nI_toI (by have := amin_lt (fun j => pc ((S 5 j ^^^ v) &&& nd (2 ^ S 0 0 - 1) (S 0 1))) hm0; omega)]; omega) ?_
      refine x_iload_n hC 0 rfl dX5_whose_42 ?_
      exact x_iret hC hR dX5_whose_43 (sp_leaf (by simp only [sp_whose, h8, tv, if_true, if_neg (show ¬ S 0 3 = 0 by omega)]; rfl) hI)
  · -- 8 F
    refine x_aload_n hC 0 rfl dX5_whose_11 ?_
    refine x_iconst hC (v := (zI (-1))) dX5_whose_12 rfl ?_
    refine x_callVI hC cw_X5_50 (c_X5_refuse (z := (-1)) (j := 1) (v := (S 1 1)) (by decide) (by decide) (hI.ref 1 (by decide))) dX5_whose_13 [] rfl (Nat.le_of_ble_eq_true rfl) rfl (rm_ok hRm (by decide) (by decide)) 5 0 rfl rfl (fun r13 m13 hp13 => ?_)
    obtain ⟨rfl, rfl⟩ := hp13
    exact x_iret hC hR dX5_whose_16 (sp_leaf (by simp [sp_whose, h8]) (hI.rfs 1 (by decide)))
set_option maxHeartbeats 4000000 in
set_option maxRecDepth 100000 in
theorem c_X5_sure {l : Launch} {D : va_G} {c : Nat → ClassId} {a : Nat → Nat} {μ : Me} {x : Int32} {S : SS} (hI : XI μ S) (hV : SV S) : KI l D (tyE c) (xw c a) yX5_sure cX5_sure 2 .int (rmL 4) [.ref (a 0), .int x] μ (fun r u => r = (sp_sure S x).1 ∧ XI u (sp_sure S x).2) := by
  refine x_enterI (by decide) (Nat.le_of_ble_eq_true rfl) (fun F hl hD hn hRm hC hR => ?_)
  subst hl hD
  change XW F 0 0 (xw c a μ) [(0, .ref (a 0)), (1, .int x)] 0 []
  change FC F cX5_sure RX5 (tyE c) at hC
  have hn1 := hV.n1
  have hn2 := hV.n2
  have hpn := hV.pn
  have hk6 := hV.k
  have hpk := hV.pk
  have hpk1 := SV.pk1 S
  have hch8 := hV.chips
  have hmk := hV.mask
  have hmk31 : S 0 1 < 2 ^ 31 := by omega
  have hX12 : ∀ j, j < S 0 3 → μ 12 j = nI (S 5 j) := fun j h => (hI.chip j h).1
  refine x_aload_n hC 0 rfl dX5_sure_0 ?_
  refine x_get hC fl_X5_10 dX5_sure_1 0 rfl rfl ?_
  refine x_iload_n hC 1 rfl dX5_sure_4 ?_
  refine x_callVI hC cw_X5_67 (c_X0_isWord (x := x) (n := (S 0 0)) (by first | assumption | exact hI.n | exact hI.mask | exact hI.k | exact hI.chips | omega) (by first | assumption | exact hI.n | exact hI.mask | exact hI.k | exact hI.chips | omega)) dX5_sure_5 [] rfl (Nat.le_of_ble_eq_true rfl) rfl (rm_ok hRm (by decide) (by decide)) 0 1 rfl rfl (fun r5 m5 hp5 => ?_)
  obtain ⟨rfl, rfl⟩ := hp5
  refine x_if_neB hC 17 dX5_sure_8 rfl (fun h8 => ?_) (fun h8 => ?_)
  · -- 8 T
    obtain ⟨v, hv, rfl⟩ := isI_T h8
    have tv := tn_nI (v := v) (by omega)
    refine x_aload_n hC 0 rfl dX5_sure_17 ?_
    refine x_get hC fl_X5_26 dX5_sure_18 0 rfl rfl ?_
    refine x_iload_n hC 1 rfl dX5_sure_21 ?_
    refine x_aload_n hC 0 rfl dX5_sure_22 ?_
    refine x_get hC fl_X5_10 dX5_sure_23 0 rfl rfl ?_
    refine x_callVI hC cw_X5_242 (c_X0_openSet  (n := (S 0 0)) (m := (S 0 1)) (by first | assumption | exact hI.n | exact hI.mask | exact hI.k | exact hI.chips | omega) (by first | assumption | exact hI.n | exact hI.mask | exact hI.k | exact hI.chips | omega) (by first | assumption | exact hI.n | exact hI.mask | exact hI.k | exact hI.chips | omega)) dX5_sure_26 [.int (nI v), .ref (a 3)] rfl (Nat.le_of_ble_eq_true rfl) rfl (rm_ok hRm (by decide) (by decide)) 0 1 rfl rfl (fun r26 m26 hp26 => ?_)
    obtain ⟨rfl, rfl⟩ := hp26
    refine x_callVI hC cw_X5_248 (c_X1_hasLoneNearest (w := v) (op := (nd (2 ^ (S 0 0) - 1) (S 0 1))) (m := (S 0 3)) (nm := (S 5)) hI.chips hch8 hX12 (by omega) (opn_lt hV)) dX5_sure_29 [] rfl (Nat.le_of_ble_eq_true rfl) rfl (rm_ok hRm (by decide) (by decide)) 1 3 rfl rfl (fun r29 m29 hp29 => ?_)
    obtain ⟨rfl, rfl⟩ := hp29
    refine x_if_eqB hC 39 dX5_sure_32 rfl (fun h32 => ?_) (fun h32 => ?_)
    · -- 32 T
      refine x_iconst hC (v := (nI 0)) dX5_sure_39 rfl ?_
      exact x_iret hC hR dX5_sure_40 (sp_leaf (by simp only [sp_sure, h8, tv, if_true, show lone (chd S v) (S 0 3) = _ from h32]; rfl) hI)
    · -- 32 F
      refine x_iconst hC (v := (nI 1)) dX5_sure_35 rfl ?_
      refine x_goto hC 40 dX5_sure_36 rfl ?_
      exact x_iret hC hR dX5_sure_40 (sp_leaf (by simp only [sp_sure, h8, tv, if_true, show lone (chd S v) (S 0 3) = _ from h32]; rfl) hI)
  · -- 8 F
    refine x_aload_n hC 0 rfl dX5_sure_11 ?_
    refine x_iconst hC (v := (zI (-1))) dX5_sure_12 rfl ?_
    refine x_callVI hC cw_X5_50 (c_X5_refuse (z := (-1)) (j := 1) (v := (S 1 1)) (by decide) (by decide) (hI.ref 1 (by decide))) dX5_sure_13 [] rfl (Nat.le_of_ble_eq_true rfl) rfl (rm_ok hRm (by decide) (by decide)) 5 0 rfl rfl (fun r13 m13 hp13 => ?_)
    obtain ⟨rfl, rfl⟩ := hp13
    exact x_iret hC hR dX5_sure_16 (sp_leaf (by simp [sp_sure, h8]) (hI.rfs 1 (by decide)))
set_option maxHeartbeats 4000000 in
set_option maxRecDepth 100000 in
theorem c_X5_apart {l : Launch} {D : va_G} {c : Nat → ClassId} {a : Nat → Nat} {μ : Me} {S : SS} (hI : XI μ S) (hV : SV S) : KI l D (tyE c) (xw c a) yX5_apart cX5_apart 1 .int (rmL 3) [.ref (a 0)] μ (fun r u => r = (sp_apart S).1 ∧ XI u (sp_apart S).2) := by
  refine x_enterI (by decide) (Nat.le_of_ble_eq_true rfl) (fun F hl hD hn hRm hC hR => ?_)
  subst hl hD
  change XW F 0 0 (xw c a μ) [(0, .ref (a 0))] 0 []
  change FC F cX5_apart RX5 (tyE c) at hC
  have hn1 := hV.n1
  have hn2 := hV.n2
  have hpn := hV.pn
  have hk6 := hV.k
  have hpk := hV.pk
  have hpk1 := SV.pk1 S
  have hch8 := hV.chips
  have hmk := hV.mask
  have hmk31 : S 0 1 < 2 ^ 31 := by omega
  have hX12 : ∀ j, j < S 0 3 → μ 12 j = nI (S 5 j) := fun j h => (hI.chip j h).1
  refine x_aload_n hC 0 rfl dX5_apart_0 ?_
  refine x_get hC fl_X5_26 dX5_apart_1 0 rfl rfl ?_
  refine x_get hC fl_X5_71 dX5_apart_4 3 rfl (v := .int (nI (S 0 3))) (xv hI.chips) ?_
  refine x_iconst hC (v := (nI 2)) dX5_apart_7 rfl ?_
  refine x_icmp_geN hC 16 dX5_apart_8 rfl (by omega) (by decide) (fun h8 => ?_) (fun h8 => ?_)
  · -- 8 T
    refine x_aload_n hC 0 rfl dX5_apart_16 ?_
    refine x_get hC fl_X5_26 dX5_apart_17 0 rfl rfl ?_
    refine x_aload_n hC 0 rfl dX5_apart_20 ?_
    refine x_get hC fl_X5_10 dX5_apart_21 0 rfl rfl ?_
    refine x_callVI hC cw_X5_242 (c_X0_openSet  (n := (S 0 0)) (m := (S 0 1)) (by first | assumption | exact hI.n | exact hI.mask | exact hI.k | exact hI.chips | omega) (by first | assumption | exact hI.n | exact hI.mask | exact hI.k | exact hI.chips | omega) (by first | assumption | exact hI.n | exact hI.mask | exact hI.k | exact hI.chips | omega)) dX5_apart_24 [.ref (a 3)] rfl (Nat.le_of_ble_eq_true rfl) rfl (rm_ok hRm (by decide) (by decide)) 0 1 rfl rfl (fun r24 m24 hp24 => ?_)
    obtain ⟨rfl, rfl⟩ := hp24
    refine x_callVI hC cw_X5_252 (c_X1_fewestApart (op := (nd (2 ^ (S 0 0) - 1) (S 0 1))) (m := (S 0 3)) (nm := (S 5)) hI.chips hch8 hX12 (opn_lt hV)) dX5_apart_27 [] rfl (Nat.le_of_ble_eq_true rfl) rfl (rm_ok hRm (by decide) (by decide)) 1 3 rfl rfl (fun r27 m27 hp27 => ?_)
    obtain ⟨rfl, rfl⟩ := hp27
    exact x_iret hC hR dX5_apart_30 (sp_leaf (by rw [sp_apart, if_neg (by omega)]; rfl) hI)
  · -- 8 F
    refine x_bipush hC (v := (zI (-9))) dX5_apart_11 rfl ?_
    refine x_goto hC 30 dX5_apart_13 rfl ?_
    exact x_iret hC hR dX5_apart_30 (sp_leaf (by rw [sp_apart, if_pos h8]) hI)
set_option maxHeartbeats 4000000 in
set_option maxRecDepth 100000 in
theorem c_X5_planes {l : Launch} {D : va_G} {c : Nat → ClassId} {a : Nat → Nat} {μ : Me} {S : SS} (hI : XI μ S) (hV : SV S) : KI l D (tyE c) (xw c a) yX5_planes cX5_planes 1 .int (rmL 4) [.ref (a 0)] μ (fun r u => r = (sp_planes S).1 ∧ XI u (sp_planes S).2) := by
  refine x_enterI (by decide) (Nat.le_of_ble_eq_true rfl) (fun F hl hD hn hRm hC hR => ?_)
  subst hl hD
  change XW F 0 0 (xw c a μ) [(0, .ref (a 0))] 0 []
  change FC F cX5_planes RX5 (tyE c) at hC
  have hn1 := hV.n1
  have hn2 := hV.n2
  have hpn := hV.pn
  have hk6 := hV.k
  have hpk := hV.pk
  have hpk1 := SV.pk1 S
  have hch8 := hV.chips
  have hmk := hV.mask
  have hmk31 : S 0 1 < 2 ^ 31 := by omega
  have hs16 : ∀ q, q < 16 → μ 16 q = bz (decide (S 10 q ≠ 0)) := fun q h => (hI.pair q h).1
  have hs17 : ∀ q, q < 16 → S 10 q ≠ 0 → μ 17 q = nI (S 10 q - 1) := fun q h => (hI.pair q h).2.1
  have hA : ∀ q, q < 16 → S 10 q ≤ 2 := fun q h => (hV.pair q h).1
  have hsv : ∃ b : Bool, μ 0 5 = bz b ∧ (b = true → SvF μ (S 10)) := hI.sv
  refine x_aload_n hC 0 rfl dX5_planes_0 ?_
  refine x_get hC fl_X5_33 dX5_planes_1 0 rfl rfl ?_
  refine x_callVV hC cw_X5_224 (c_X4_survey  (A := (S 10)) hs16 hs17 hA hsv) dX5_planes_4 [] rfl (Nat.le_of_ble_eq_true rfl) rfl (rm_ok hRm (by decide) (by decide)) 4 4 rfl rfl (fun m4 hp4 => ?_)
  obtain ⟨hag, hs5, hs6, hs20, hs19⟩ := hp4
  refine x_aload_n hC 0 rfl dX5_planes_7 ?_
  refine x_get hC fl_X5_33 dX5_planes_8 0 rfl rfl ?_
  refine x_get hC fl_X5_227 dX5_planes_11 4 rfl (v := .int (nI (plc (S 10)))) (xv hs6) ?_
  exact x_iret hC hR dX5_planes_14 (sp_leaf rfl (hI.agS hag hs5 ⟨hs6, hs20, hs19⟩))
set_option maxHeartbeats 4000000 in
set_option maxRecDepth 100000 in
theorem c_X5_plane {l : Launch} {D : va_G} {c : Nat → ClassId} {a : Nat → Nat} {μ : Me} {x : Int32} {S : SS} (hI : XI μ S) (hV : SV S) : KI l D (tyE c) (xw c a) yX5_plane cX5_plane 2 .int (rmL 4) [.ref (a 0), .int x] μ (fun r u => r = (sp_plane S x).1 ∧ XI u (sp_plane S x).2) := by
  refine x_enterI (by decide) (Nat.le_of_ble_eq_true rfl) (fun F hl hD hn hRm hC hR => ?_)
  subst hl hD
  change XW F 0 0 (xw c a μ) [(0, .ref (a 0)), (1, .int x)] 0 []
  change FC F cX5_plane RX5 (tyE c) at hC
  have hn1 := hV.n1
  have hn2 := hV.n2
  have hpn := hV.pn
  have hk6 := hV.k
  have hpk := hV.pk
  have hpk1 := SV.pk1 S
  have hch8 := hV.chips
  have hmk := hV.mask
  have hmk31 : S 0 1 < 2 ^ 31 := by omega
  have hs16 : ∀ q, q < 16 → μ 16 q = bz (decide (S 10 q ≠ 0)) := fun q h => (hI.pair q h).1
  have hs17 : ∀ q, q < 16 → S 10 q ≠ 0 → μ 17 q = nI (S 10 q - 1) := fun q h => (hI.pair q h).2.1
  have hA : ∀ q, q < 16 → S 10 q ≤ 2 := fun q h => (hV.pair q h).1
  have hsv : ∃ b : Bool, μ 0 5 = bz b ∧ (b = true → SvF μ (S 10)) := hI.sv
  refine x_iload_n hC 1 rfl dX5_plane_0 ?_
  refine x_if_lt hC 9 dX5_plane_1 rfl (fun h1 => ?_) (fun h1 => ?_)
  · -- 1 T
    have g1 : isI 5 x = false := isI_neg h1
    refine x_aload_n hC 0 rfl dX5_plane_9 ?_
    refine x_bipush hC (v := (zI (-2))) dX5_plane_10 rfl ?_
    refine x_callVI hC cw_X5_50 (c_X5_refuse (z := (-2)) (j := 2) (v := (S 1 2)) (by decide) (by decide) (hI.ref 2 (by decide))) dX5_plane_12 [] rfl (Nat.le_of_ble_eq_true rfl) rfl (rm_ok hRm (by decide) (by decide)) 5 0 rfl rfl (fun r12 m12 hp12 => ?_)
    obtain ⟨rfl, rfl⟩ := hp12
    exact x_iret hC hR dX5_plane_15 (sp_leaf (by simp [sp_plane, g1]) (hI.rfs 2 (by decide)))
  · -- 1 F
    refine x_iload_n hC 1 rfl dX5_plane_4 ?_
    refine x_iconst hC (v := (nI 5)) dX5_plane_5 rfl ?_
    refine x_icmp_lt hC 16 dX5_plane_6 rfl (fun h6 => ?_) (fun h6 => ?_)
    · -- 6 T
      have g6 : isI 5 x = true := isI_ok (by decide) h1 (fun q => absurd h6 (by rw [i32_lt]; rw [i32_le] at q; omega))
      obtain ⟨v, hv, rfl⟩ := isI_T g6
      have tv := tn_nI (v := v) (by omega)
      refine x_aload_n hC 0 rfl dX5_plane_16 ?_
      refine x_get hC fl_X5_33 dX5_plane_17 0 rfl rfl ?_
      refine x_callVV hC cw_X5_224 (c_X4_survey  (A := (S 10)) hs16 hs17 hA hsv) dX5_plane_20 [] rfl (Nat.le_of_ble_eq_true rfl) rfl (rm_ok hRm (by decide) (by decide)) 4 4 rfl rfl (fun m20 hp20 => ?_)
      obtain ⟨hag, hs5, hs6, hs20, hs19⟩ := hp20
      refine x_aload_n hC 0 rfl dX5_plane_23 ?_
      refine x_get hC fl_X5_33 dX5_plane_24 0 rfl rfl ?_
      refine x_get hC fl_X5_227 dX5_plane_27 4 rfl (v := .int (nI (plc (S 10)))) (xv hs6) ?_
      refine x_if_neN hC 38 dX5_plane_30 rfl (by have := plc_b (S 10); omega) (fun h30 => ?_) (fun h30 => ?_)
      · -- 30 T
        refine x_aload_n hC 0 rfl dX5_plane_38 ?_
        refine x_get hC fl_X5_33 dX5_plane_39 0 rfl rfl ?_
        refine x_get hC fl_X5_230 dX5_plane_42 4 rfl rfl ?_
        refine x_iload_n hC 1 rfl dX5_plane_45 ?_
        refine x_iald hC 19 0 rfl rfl (y := (zI (plf (S 10) v))) (by omega) (by decide) (hs19 (by omega) v (by omega)) dX5_plane_46 ?_
        refine x_bipush hC (v := (nI 10)) dX5_plane_47 rfl ?_
        refine x_iaddE hC (z := (zI ((plf (S 10) v) + 10))) (zI_add (plf (S 10) v) 10) dX5_plane_49 ?_
        exact x_iret hC hR dX5_plane_50 (sp_leaf (by simp [sp_plane, g6, g6, h30, tv]) (hI.agS hag hs5 ⟨hs6, hs20, hs19⟩))
      · -- 30 F
        refine x_bipush hC (v := (zI (-9))) dX5_plane_33 rfl ?_
        refine x_goto hC 50 dX5_plane_35 rfl ?_
        exact x_iret hC hR dX5_plane_50 (sp_leaf (by simp [sp_plane, g6, g6, h30, tv]) (hI.agS hag hs5 ⟨hs6, hs20, hs19⟩))
    · -- 6 F
      have g6 : isI 5 x = false := isI_big (by decide) (by rw [i32_le]; rw [i32_lt] at h6; omega)
      refine x_aload_n hC 0 rfl dX5_plane_9 ?_
      refine x_bipush hC (v := (zI (-2))) dX5_plane_10 rfl ?_
      refine x_callVI hC cw_X5_50 (c_X5_refuse (z := (-2)) (j := 2) (v := (S 1 2)) (by decide) (by decide) (hI.ref 2 (by decide))) dX5_plane_12 [] rfl (Nat.le_of_ble_eq_true rfl) rfl (rm_ok hRm (by decide) (by decide)) 5 0 rfl rfl (fun r12 m12 hp12 => ?_)
      obtain ⟨rfl, rfl⟩ := hp12
      exact x_iret hC hR dX5_plane_15 (sp_leaf (by simp [sp_plane, g6, g6]) (hI.rfs 2 (by decide)))
set_option maxHeartbeats 4000000 in
set_option maxRecDepth 100000 in
theorem c_X5_foretold {l : Launch} {D : va_G} {c : Nat → ClassId} {a : Nat → Nat} {μ : Me} {x : Int32} {S : SS} (hI : XI μ S) (hV : SV S) : KI l D (tyE c) (xw c a) yX5_foretold cX5_foretold 2 .int (rmL 5) [.ref (a 0), .int x] μ (fun r u => r = (sp_foretold S x).1 ∧ XI u (sp_foretold S x).2) := by
  refine x_enterI (by decide) (Nat.le_of_ble_eq_true rfl) (fun F hl hD hn hRm hC hR => ?_)
  subst hl hD
  change XW F 0 0 (xw c a μ) [(0, .ref (a 0)), (1, .int x)] 0 []
  change FC F cX5_foretold RX5 (tyE c) at hC
  have hn1 := hV.n1
  have hn2 := hV.n2
  have hpn := hV.pn
  have hk6 := hV.k
  have hpk := hV.pk
  have hpk1 := SV.pk1 S
  have hch8 := hV.chips
  have hmk := hV.mask
  have hmk31 : S 0 1 < 2 ^ 31 := by omega
  have hs16 : ∀ q, q < 16 → μ 16 q = bz (decide (S 10 q ≠ 0)) := fun q h => (hI.pair q h).1
  have hs17 : ∀ q, q < 16 → S 10 q ≠ 0 → μ 17 q = nI (S 10 q - 1) := fun q h => (hI.pair q h).2.1
  have hA : ∀ q, q < 16 → S 10 q ≤ 2 := fun q h => (hV.pair q h).1
  have hsv : ∃ b : Bool, μ 0 5 = bz b ∧ (b = true → SvF μ (S 10)) := hI.sv
  refine x_iload_n hC 1 rfl dX5_foretold_0 ?_
  refine x_callN hC cs_X5_207 (c_X4_isQuestion (x := x)  ) dX5_foretold_1 [] rfl (Nat.le_of_ble_eq_true rfl) rfl (rm_ok hRm (by decide) (by decide)) ?_
  refine x_if_eqB hC 18 dX5_foretold_4 rfl (fun h4 => ?_) (fun h4 => ?_)
  · -- 4 T
    refine x_aload_n hC 0 rfl dX5_foretold_18 ?_
    refine x_iconst hC (v := (zI (-1))) dX5_foretold_19 rfl ?_
    refine x_callVI hC cw_X5_50 (c_X5_refuse (z := (-1)) (j := 1) (v := (S 1 1)) (by decide) (by decide) (hI.ref 1 (by decide))) dX5_foretold_20 [] rfl (Nat.le_of_ble_eq_true rfl) rfl (rm_ok hRm (by decide) (by decide)) 5 0 rfl rfl (fun r20 m20 hp20 => ?_)
    obtain ⟨rfl, rfl⟩ := hp20
    exact x_iret hC hR dX5_foretold_23 (sp_leaf (by simp [sp_foretold, h4]) (hI.rfs 1 (by decide)))
  · -- 4 F
    obtain ⟨v, hv, rfl⟩ := isI_T h4
    have tv := tn_nI (v := v) (by omega)
    refine x_aload_n hC 0 rfl dX5_foretold_7 ?_
    refine x_get hC fl_X5_33 dX5_foretold_8 0 rfl rfl ?_
    refine x_iload_n hC 1 rfl dX5_foretold_11 ?_
    refine x_callVI hC cw_X5_233 (c_X4_foretell (q := v) (A := (S 10)) hs16 hs17 hA hsv hv) dX5_foretold_12 [] rfl (Nat.le_of_ble_eq_true rfl) rfl (rm_ok hRm (by decide) (by decide)) 4 4 rfl rfl (fun r12 m12 hp12 => ?_)
    obtain ⟨rfl, hag, hs5, hs6⟩ := hp12
    refine x_goto hC 23 dX5_foretold_15 rfl ?_
    exact x_iret hC hR dX5_foretold_23 (sp_leaf (by simp [sp_foretold, h4, tv]) (hI.agS hag hs5 hs6))
set_option maxHeartbeats 4000000 in
set_option maxRecDepth 100000 in
theorem c_X5_next {l : Launch} {D : va_G} {c : Nat → ClassId} {a : Nat → Nat} {μ : Me} {S : SS} (hI : XI μ S) (hV : SV S) : KI l D (tyE c) (xw c a) yX5_next cX5_next 2 .int (rmL 5) [.ref (a 0)] μ (fun r u => r = (sp_next S).1 ∧ XI u (sp_next S).2) := by
  refine x_enterI (by decide) (Nat.le_of_ble_eq_true rfl) (fun F hl hD hn hRm hC hR => ?_)
  subst hl hD
  change XW F 0 0 (xw c a μ) [(0, .ref (a 0))] 0 []
  change FC F cX5_next RX5 (tyE c) at hC
  have hn1 := hV.n1
  have hn2 := hV.n2
  have hpn := hV.pn
  have hk6 := hV.k
  have hpk := hV.pk
  have hpk1 := SV.pk1 S
  have hch8 := hV.chips
  have hmk := hV.mask
  have hmk31 : S 0 1 < 2 ^ 31 := by omega
  have hs16 : ∀ q, q < 16 → μ 16 q = bz (decide (S 10 q ≠ 0)) := fun q h => (hI.pair q h).1
  have hs17 : ∀ q, q < 16 → S 10 q ≠ 0 → μ 17 q = nI (S 10 q - 1) := fun q h => (hI.pair q h).2.1
  have hA : ∀ q, q < 16 → S 10 q ≤ 2 := fun q h => (hV.pair q h).1
  have hsv : ∃ b : Bool, μ 0 5 = bz b ∧ (b = true → SvF μ (S 10)) := hI.sv
  refine x_aload_n hC 0 rfl dX5_next_0 ?_
  refine x_get hC fl_X5_33 dX5_next_1 0 rfl rfl ?_
  refine x_callVI hC cw_X5_236 (c_X4_halvingQuestion  (A := (S 10)) hs16 hs17 hA hsv) dX5_next_4 [] rfl (Nat.le_of_ble_eq_true rfl) rfl (rm_ok hRm (by decide) (by decide)) 4 4 rfl rfl (fun r4 m4 hp4 => ?_)
  obtain ⟨hq, hag, hs5, hs6⟩ := hp4
  rcases hq with ⟨hq, rfl⟩ | ⟨y, hq, rfl, hy⟩
  · skip
    refine x_istore_n hC [(1, .int (zI (-1))), (0, .ref (a 0))] rfl (lt_n hn rfl) dX5_next_7 ?_
    refine x_iload_n hC 0 rfl dX5_next_8 ?_
    refine x_if_ge_F hC 17 dX5_next_9 rfl (by decide) ?_
    refine x_bipush hC (v := (zI (-9))) dX5_next_12 rfl ?_
    refine x_goto hC 18 dX5_next_14 rfl ?_
    exact x_iret hC hR dX5_next_18 (sp_leaf (by simp only [sp_next, hq]) (hI.agS hag hs5 hs6))
  · skip
    refine x_istore_n hC [(1, .int (nI y)), (0, .ref (a 0))] rfl (lt_n hn rfl) dX5_next_7 ?_
    refine x_iload_n hC 0 rfl dX5_next_8 ?_
    refine x_if_ge_T hC 17 dX5_next_9 rfl (by rw [i32_le, i32_0, nI_toI (by omega)]; omega) ?_
    refine x_iload_n hC 0 rfl dX5_next_17 ?_
    exact x_iret hC hR dX5_next_18 (sp_leaf (by simp only [sp_next, hq]) (hI.agS hag hs5 hs6))
set_option maxHeartbeats 4000000 in
set_option maxRecDepth 100000 in
theorem c_X5_pair {l : Launch} {D : va_G} {c : Nat → ClassId} {a : Nat → Nat} {μ : Me} {q : Int32} {g : Int32} {S : SS} (hI : XI μ S) (hV : SV S) : KI l D (tyE c) (xw c a) yX5_pair cX5_pair 3 .int (rmL 2) [.ref (a 0), .int q, .int g] μ (fun r u => r = (sp_pair S q g).1 ∧ XI u (sp_pair S q g).2) := by
  refine x_enterI (by decide) (Nat.le_of_ble_eq_true rfl) (fun F hl hD hn hRm hC hR => ?_)
  subst hl hD
  change XW F 0 0 (xw c a μ) [(0, .ref (a 0)), (1, .int q), (2, .int g)] 0 []
  change FC F cX5_pair RX5 (tyE c) at hC
  have hn1 := hV.n1
  have hn2 := hV.n2
  have hpn := hV.pn
  have hk6 := hV.k
  have hpk := hV.pk
  have hpk1 := SV.pk1 S
  have hch8 := hV.chips
  have hmk := hV.mask
  have hmk31 : S 0 1 < 2 ^ 31 := by omega
  have hs16 : ∀ q, q < 16 → μ 16 q = bz (decide (S 10 q ≠ 0)) := fun q h => (hI.pair q h).1
  have hs17 : ∀ q, q < 16 → S 10 q ≠ 0 → μ 17 q = nI (S 10 q - 1) := fun q h => (hI.pair q h).2.1
  have hA : ∀ q, q < 16 → S 10 q ≤ 2 := fun q h => (hV.pair q h).1
  have hsv : ∃ b : Bool, μ 0 5 = bz b ∧ (b = true → SvF μ (S 10)) := hI.sv
  refine x_iload_n hC 1 rfl dX5_pair_0 ?_
  refine x_callN hC cs_X5_207 (c_X4_isQuestion (x := q)  ) dX5_pair_1 [] rfl (Nat.le_of_ble_eq_true rfl) rfl (rm_ok hRm (by decide) (by decide)) ?_
  refine x_if_eqB hC 14 dX5_pair_4 rfl (fun h4 => ?_) (fun h4 => ?_)
  · -- 4 T
    refine x_aload_n hC 0 rfl dX5_pair_14 ?_
    refine x_iconst hC (v := (zI (-1))) dX5_pair_15 rfl ?_
    refine x_callVI hC cw_X5_50 (c_X5_refuse (z := (-1)) (j := 1) (v := (S 1 1)) (by decide) (by decide) (hI.ref 1 (by decide))) dX5_pair_16 [] rfl (Nat.le_of_ble_eq_true rfl) rfl (rm_ok hRm (by decide) (by decide)) 5 0 rfl rfl (fun r16 m16 hp16 => ?_)
    obtain ⟨rfl, rfl⟩ := hp16
    exact x_iret hC hR dX5_pair_19 (sp_leaf (by simp [sp_pair, h4]) (hI.rfs 1 (by decide)))
  · -- 4 F
    obtain ⟨v, hv, rfl⟩ := isI_T h4
    have tv := tn_nI (v := v) (by omega)
    refine x_iload_n hC 2 rfl dX5_pair_7 ?_
    refine x_callN hC cs_X5_210 (c_X4_isAnswer (x := g)  ) dX5_pair_8 [] rfl (Nat.le_of_ble_eq_true rfl) rfl (rm_ok hRm (by decide) (by decide)) ?_
    refine x_if_neB hC 20 dX5_pair_11 rfl (fun h11 => ?_) (fun h11 => ?_)
    · -- 11 T
      obtain ⟨y, hy, rfl⟩ := isI_T h11
      have ty := tn_nI (v := y) (by omega)
      refine x_aload_n hC 0 rfl dX5_pair_20 ?_
      refine x_get hC fl_X5_33 dX5_pair_21 0 rfl rfl ?_
      refine x_get hC fl_X5_213 dX5_pair_24 4 rfl rfl ?_
      refine x_iload_n hC 1 rfl dX5_pair_27 ?_
      refine x_zald hC 16 1 rfl rfl (y := (bz (decide (S 10 v ≠ 0)))) (by omega) (by decide) ((hI.pair v (by omega)).1) dX5_pair_28 ?_
      refine x_if_eqB hC 52 dX5_pair_29 rfl (fun h29 => ?_) (fun h29 => ?_)
      · -- 29 T
        have hsn := Decidable.of_not_not (of_decide_eq_false h29)
        refine x_aload_n hC 0 rfl dX5_pair_52 ?_
        refine x_get hC fl_X5_33 dX5_pair_53 0 rfl rfl ?_
        refine x_iload_n hC 1 rfl dX5_pair_56 ?_
        refine x_iload_n hC 2 rfl dX5_pair_57 ?_
        refine x_callVV hC cw_X5_219 (c_X4_keep (q := v) (g := y) (sn := (fun q => decide (S 10 q ≠ 0))) (pm := (pcnt (S 10))) hs16 hI.pm hv) dX5_pair_58 [] rfl (Nat.le_of_ble_eq_true rfl) rfl (rm_ok hRm (by decide) (by decide)) 4 4 rfl rfl (fun m58 hp58 => ?_)
        obtain rfl : m58 = up (up (up (up μ 16 v (nI 1)) 17 v (nI y)) 0 4 (nI (pcnt (S 10) + 1))) 0 5 (nI 0) := by rcases hp58 with q | q; exact absurd hsn (of_decide_eq_true q.1); exact q.2
        refine x_aload_n hC 0 rfl dX5_pair_61 ?_
        refine x_get hC fl_X5_33 dX5_pair_62 0 rfl rfl ?_
        refine x_get hC fl_X5_223 dX5_pair_65 4 rfl (v := .int (nI (pcnt (S 10) + 1))) rfl ?_
        exact x_iret hC hR dX5_pair_68 (sp_leaf (by simp only [sp_pair, h4, h11, tv, ty, and_self, if_true]; rw [if_neg (fun q => q.1 hsn)]; show (nI (pcnt (fun i => if i = v then y + 1 else S 10 i)), _) = _; rw [pcnt_new hv hsn (by omega)]) (hI.pairc v y hv hsn))
      · -- 29 F
        have hsn := of_decide_eq_true h29
        refine x_aload_n hC 0 rfl dX5_pair_32 ?_
        refine x_get hC fl_X5_33 dX5_pair_33 0 rfl rfl ?_
        refine x_get hC fl_X5_216 dX5_pair_36 4 rfl rfl ?_
        refine x_iload_n hC 1 rfl dX5_pair_39 ?_
        refine x_iald hC 17 0 rfl rfl (y := (nI (S 10 v - 1))) (by omega) (by decide) ((hI.pair v (by omega)).2.1 hsn) dX5_pair_40 ?_
        refine x_iload_n hC 2 rfl dX5_pair_41 ?_
        refine x_icmp_eqN hC 52 dX5_pair_42 rfl (by have := hA v hv; omega) (by omega) (fun h42 => ?_) (fun h42 => ?_)
        · -- 42 T
          have hS2 := hA v hv
          have heq : S 10 v = y + 1 := by omega
          refine x_aload_n hC 0 rfl dX5_pair_52 ?_
          refine x_get hC fl_X5_33 dX5_pair_53 0 rfl rfl ?_
          refine x_iload_n hC 1 rfl dX5_pair_56 ?_
          refine x_iload_n hC 2 rfl dX5_pair_57 ?_
          refine x_callVV hC cw_X5_219 (c_X4_keep (q := v) (g := y) (sn := (fun q => decide (S 10 q ≠ 0))) (pm := (pcnt (S 10))) hs16 hI.pm hv) dX5_pair_58 [] rfl (Nat.le_of_ble_eq_true rfl) rfl (rm_ok hRm (by decide) (by decide)) 4 4 rfl rfl (fun m58 hp58 => ?_)
          obtain rfl : m58 = μ := by rcases hp58 with q | q; exact q.2; exact absurd (of_decide_eq_false q.1) (fun z => z hsn)
          refine x_aload_n hC 0 rfl dX5_pair_61 ?_
          refine x_get hC fl_X5_33 dX5_pair_62 0 rfl rfl ?_
          refine x_get hC fl_X5_223 dX5_pair_65 4 rfl (v := .int (nI (pcnt (S 10)))) (xv hI.pm) ?_
          exact x_iret hC hR dX5_pair_68 (sp_leaf (by simp only [sp_pair, h4, h11, tv, ty, and_self, if_true]; rw [if_neg (fun q => q.2 heq), show sup S 10 v (y + 1) = S from by rw [← heq]; exact sup_id S 10 v]) hI)
        · -- 42 F
          have hne : ¬ S 10 v = y + 1 := by omega
          refine x_aload_n hC 0 rfl dX5_pair_45 ?_
          refine x_bipush hC (v := (zI (-3))) dX5_pair_46 rfl ?_
          refine x_callVI hC cw_X5_50 (c_X5_refuse (z := (-3)) (j := 3) (v := (S 1 3)) (by decide) (by decide) (hI.ref 3 (by decide))) dX5_pair_48 [] rfl (Nat.le_of_ble_eq_true rfl) rfl (rm_ok hRm (by decide) (by decide)) 5 0 rfl rfl (fun r48 m48 hp48 => ?_)
          obtain ⟨rfl, rfl⟩ := hp48
          exact x_iret hC hR dX5_pair_51 (sp_leaf (by simp [sp_pair, h4, h11, hsn, hne, tv, ty]) (hI.rfs 3 (by decide)))
    · -- 11 F
      refine x_aload_n hC 0 rfl dX5_pair_14 ?_
      refine x_iconst hC (v := (zI (-1))) dX5_pair_15 rfl ?_
      refine x_callVI hC cw_X5_50 (c_X5_refuse (z := (-1)) (j := 1) (v := (S 1 1)) (by decide) (by decide) (hI.ref 1 (by decide))) dX5_pair_16 [] rfl (Nat.le_of_ble_eq_true rfl) rfl (rm_ok hRm (by decide) (by decide)) 5 0 rfl rfl (fun r16 m16 hp16 => ?_)
      obtain ⟨rfl, rfl⟩ := hp16
      exact x_iret hC hR dX5_pair_19 (sp_leaf (by simp [sp_pair, h4, h11, tv]) (hI.rfs 1 (by decide)))
set_option maxHeartbeats 4000000 in
set_option maxRecDepth 100000 in
theorem c_X5_check {l : Launch} {D : va_G} {c : Nat → ClassId} {a : Nat → Nat} {μ : Me} {q : Int32} {g : Int32} {S : SS} (hI : XI μ S) (hV : SV S) : KI l D (tyE c) (xw c a) yX5_check cX5_check 3 .int (rmL 2) [.ref (a 0), .int q, .int g] μ (fun r u => r = (sp_check S q g).1 ∧ XI u (sp_check S q g).2) := by
  refine x_enterI (by decide) (Nat.le_of_ble_eq_true rfl) (fun F hl hD hn hRm hC hR => ?_)
  subst hl hD
  change XW F 0 0 (xw c a μ) [(0, .ref (a 0)), (1, .int q), (2, .int g)] 0 []
  change FC F cX5_check RX5 (tyE c) at hC
  have hn1 := hV.n1
  have hn2 := hV.n2
  have hpn := hV.pn
  have hk6 := hV.k
  have hpk := hV.pk
  have hpk1 := SV.pk1 S
  have hch8 := hV.chips
  have hmk := hV.mask
  have hmk31 : S 0 1 < 2 ^ 31 := by omega
  have hs16 : ∀ q, q < 16 → μ 16 q = bz (decide (S 10 q ≠ 0)) := fun q h => (hI.pair q h).1
  have hs17 : ∀ q, q < 16 → S 10 q ≠ 0 → μ 17 q = nI (S 10 q - 1) := fun q h => (hI.pair q h).2.1
  have hA : ∀ q, q < 16 → S 10 q ≤ 2 := fun q h => (hV.pair q h).1
  have hsv : ∃ b : Bool, μ 0 5 = bz b ∧ (b = true → SvF μ (S 10)) := hI.sv
  refine x_iload_n hC 1 rfl dX5_check_0 ?_
  refine x_callN hC cs_X5_207 (c_X4_isQuestion (x := q)  ) dX5_check_1 [] rfl (Nat.le_of_ble_eq_true rfl) rfl (rm_ok hRm (by decide) (by decide)) ?_
  refine x_if_eqB hC 14 dX5_check_4 rfl (fun h4 => ?_) (fun h4 => ?_)
  · -- 4 T
    refine x_aload_n hC 0 rfl dX5_check_14 ?_
    refine x_iconst hC (v := (zI (-1))) dX5_check_15 rfl ?_
    refine x_callVI hC cw_X5_50 (c_X5_refuse (z := (-1)) (j := 1) (v := (S 1 1)) (by decide) (by decide) (hI.ref 1 (by decide))) dX5_check_16 [] rfl (Nat.le_of_ble_eq_true rfl) rfl (rm_ok hRm (by decide) (by decide)) 5 0 rfl rfl (fun r16 m16 hp16 => ?_)
    obtain ⟨rfl, rfl⟩ := hp16
    exact x_iret hC hR dX5_check_19 (sp_leaf (by simp [sp_check, h4]) (hI.rfs 1 (by decide)))
  · -- 4 F
    obtain ⟨v, hv, rfl⟩ := isI_T h4
    have tv := tn_nI (v := v) (by omega)
    refine x_iload_n hC 2 rfl dX5_check_7 ?_
    refine x_callN hC cs_X5_210 (c_X4_isAnswer (x := g)  ) dX5_check_8 [] rfl (Nat.le_of_ble_eq_true rfl) rfl (rm_ok hRm (by decide) (by decide)) ?_
    refine x_if_neB hC 20 dX5_check_11 rfl (fun h11 => ?_) (fun h11 => ?_)
    · -- 11 T
      obtain ⟨y, hy, rfl⟩ := isI_T h11
      have ty := tn_nI (v := y) (by omega)
      refine x_aload_n hC 0 rfl dX5_check_20 ?_
      refine x_get hC fl_X5_33 dX5_check_21 0 rfl rfl ?_
      refine x_get hC fl_X5_213 dX5_check_24 4 rfl rfl ?_
      refine x_iload_n hC 1 rfl dX5_check_27 ?_
      refine x_zald hC 16 1 rfl rfl (y := (bz (decide (S 10 v ≠ 0)))) (by omega) (by decide) ((hI.pair v (by omega)).1) dX5_check_28 ?_
      refine x_if_eqB hC 44 dX5_check_29 rfl (fun h29 => ?_) (fun h29 => ?_)
      · -- 29 T
        have hsn := Decidable.of_not_not (of_decide_eq_false h29)
        refine x_aload_n hC 0 rfl dX5_check_44 ?_
        refine x_bipush hC (v := (zI (-3))) dX5_check_45 rfl ?_
        refine x_callVI hC cw_X5_50 (c_X5_refuse (z := (-3)) (j := 3) (v := (S 1 3)) (by decide) (by decide) (hI.ref 3 (by decide))) dX5_check_47 [] rfl (Nat.le_of_ble_eq_true rfl) rfl (rm_ok hRm (by decide) (by decide)) 5 0 rfl rfl (fun r47 m47 hp47 => ?_)
        obtain ⟨rfl, rfl⟩ := hp47
        exact x_iret hC hR dX5_check_50 (sp_leaf (by simp [sp_check, h4, h11, hsn, tv, ty]) (hI.rfs 3 (by decide)))
      · -- 29 F
        have hsn := of_decide_eq_true h29
        refine x_aload_n hC 0 rfl dX5_check_32 ?_
        refine x_get hC fl_X5_33 dX5_check_33 0 rfl rfl ?_
        refine x_get hC fl_X5_239 dX5_check_36 4 rfl rfl ?_
        refine x_iload_n hC 1 rfl dX5_check_39 ?_
        refine x_zald hC 18 1 rfl rfl (y := (bz (decide (S 11 v = 1)))) (by omega) (by decide) ((hI.pair v (by omega)).2.2) dX5_check_40 ?_
        refine x_if_eqB hC 51 dX5_check_41 rfl (fun h41 => ?_) (fun h41 => ?_)
        · -- 41 T
          have u41 := of_decide_eq_false h41
          refine x_aload_n hC 0 rfl dX5_check_51 ?_
          refine x_get hC fl_X5_33 dX5_check_52 0 rfl rfl ?_
          refine x_get hC fl_X5_239 dX5_check_55 4 rfl rfl ?_
          refine x_iload_n hC 1 rfl dX5_check_58 ?_
          refine x_iconst hC (v := (nI 1)) dX5_check_59 rfl ?_
          refine x_zast hC 18 1 rfl rfl (by omega) (by decide) rfl (xw c a (up μ 18 v (nI 1))) rfl dX5_check_60 ?_
          refine x_aload_n hC 0 rfl dX5_check_61 ?_
          refine x_get hC fl_X5_33 dX5_check_62 0 rfl rfl ?_
          refine x_get hC fl_X5_216 dX5_check_65 4 rfl rfl ?_
          refine x_iload_n hC 1 rfl dX5_check_68 ?_
          refine x_iald hC 17 0 rfl rfl (y := (nI (S 10 v - 1))) (by omega) (by decide) ((hI.pair v (by omega)).2.1 hsn) dX5_check_69 ?_
          refine x_iload_n hC 2 rfl dX5_check_70 ?_
          refine x_icmp_neN hC 78 dX5_check_71 rfl (by have := hA v hv; omega) (by omega) (fun h71 => ?_) (fun h71 => ?_)
          · -- 71 T
            have hne : ¬ S 10 v = y + 1 := by omega
            refine x_iconst hC (v := (nI 0)) dX5_check_78 rfl ?_
            exact x_iret hC hR dX5_check_79 (sp_leaf (by simp [sp_check, h4, h11, hsn, u41, hne, tv, ty]) (hI.usec v))
          · -- 71 F
            have hne : S 10 v = y + 1 := by omega
            refine x_iconst hC (v := (nI 1)) dX5_check_74 rfl ?_
            refine x_goto hC 79 dX5_check_75 rfl ?_
            exact x_iret hC hR dX5_check_79 (sp_leaf (by simp [sp_check, h4, h11, hsn, u41, hne, tv, ty]) (hI.usec v))
        · -- 41 F
          have u41 := of_decide_eq_true h41
          refine x_aload_n hC 0 rfl dX5_check_44 ?_
          refine x_bipush hC (v := (zI (-3))) dX5_check_45 rfl ?_
          refine x_callVI hC cw_X5_50 (c_X5_refuse (z := (-3)) (j := 3) (v := (S 1 3)) (by decide) (by decide) (hI.ref 3 (by decide))) dX5_check_47 [] rfl (Nat.le_of_ble_eq_true rfl) rfl (rm_ok hRm (by decide) (by decide)) 5 0 rfl rfl (fun r47 m47 hp47 => ?_)
          obtain ⟨rfl, rfl⟩ := hp47
          exact x_iret hC hR dX5_check_50 (sp_leaf (by simp [sp_check, h4, h11, hsn, u41, tv, ty]) (hI.rfs 3 (by decide)))
    · -- 11 F
      refine x_aload_n hC 0 rfl dX5_check_14 ?_
      refine x_iconst hC (v := (zI (-1))) dX5_check_15 rfl ?_
      refine x_callVI hC cw_X5_50 (c_X5_refuse (z := (-1)) (j := 1) (v := (S 1 1)) (by decide) (by decide) (hI.ref 1 (by decide))) dX5_check_16 [] rfl (Nat.le_of_ble_eq_true rfl) rfl (rm_ok hRm (by decide) (by decide)) 5 0 rfl rfl (fun r16 m16 hp16 => ?_)
      obtain ⟨rfl, rfl⟩ := hp16
      exact x_iret hC hR dX5_check_19 (sp_leaf (by simp [sp_check, h4, h11, tv]) (hI.rfs 1 (by decide)))
