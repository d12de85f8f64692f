theorem cl_152 : Cond.classLink RX5 152 tIA ∈ UU := uu_of (by decide +kernel) rfl
theorem cl_159 : Cond.classLink RX5 159 tIS ∈ UU := uu_of (by decide +kernel) rfl
theorem in_IA : Cond.initialized tIA ∈ UU := uu_of (by decide +kernel) rfl
theorem in_IS : Cond.initialized tIS ∈ UU := uu_of (by decide +kernel) rfl
theorem isI_big1 {n : Nat} {x : Int32} (hn : n + 1 < 2147483648) (h : ¬ x ≤ nI n) : isI (n + 1) x = false := by
  rw [i32_le, nI_toI (by omega)] at h
  simp only [isI, Bool.and_eq_false_iff, decide_eq_false_iff_not]
  omega
theorem isI_mid1 {n : Nat} {x : Int32} (hn : n + 1 < 2147483648) (h0 : ¬ x < 0) (h : x ≤ nI n) : isI (n + 1) x = true := by
  rw [i32_le, nI_toI (by omega)] at h
  rw [i32_lt, i32_0] at h0
  simp only [isI, Bool.and_eq_true, decide_eq_true_eq]
  omega

set_option maxHeartbeats 4000000 in
set_option maxRecDepth 100000 in
theorem c_X5_fail {l : Launch} {D : va_G} {c : Nat → ClassId} {a : Nat → Nat} {μ : Me} {sa : Nat → Nat} (hst : l.stackTraces = false) {x age : Int32} {S : SS} (hI : XI μ S) (hV : SV S) : KX l D (tyE c) (xw c a) yX5_fail cX5_fail 3 (rmT 45) [.ref (a 0), .int x, .int age] sa μ (fun r u => (sp_fail S x age).1 = 0 ∧ r = lN (sp_fail S x age).2 ∧ XI u S) (fun E => ((sp_fail S x age).1 = 1 ∧ E = tIA) ∨ ((sp_fail S x age).1 = 2 ∧ E = tIS)) := by
  refine x_enterX (by decide) (Nat.le_of_ble_eq_true rfl) (fun F hl hD hn hRm hC hR hT hX => ?_)
  subst hl hD
  change XW F 0 0 (xw c a μ) [(0, .ref (a 0)), (1, .int x), (2, .int age)] 0 []
  change FC F cX5_fail RX5 (tyE c) at hC
  have hn1 := hV.n1
  have hn2 := hV.n2
  have hpn := hV.pn
  have hk6 := hV.k
  have hpk := hV.pk
  have hpk1 := SV.pk1 S
  have hch8 := hV.chips
  have hmk := hV.mask
  have hmk31 : S 0 1 < 2 ^ 31 := by omega
  have hX8 := hI.ch
  have hX9 := hI.we
  have hcb : ∀ j, j < 14 → S 2 j ≤ 4 ∧ S 3 j ≤ 4 := fun j h => ⟨(hV.told j h).1, (hV.told j h).2.1⟩
  have hX11 := hI.words
  have hWb : ∀ j, j < 2 ^ S 0 2 → cw S j < 16384 := fun j _ => cw_lt hV j
  have hX12 : ∀ j, j < S 0 3 → μ 12 j = nI (S 5 j) := fun j h => (hI.chip j h).1
  refine x_aload_n hC 0 rfl dX5_fail_0 ?_
  refine x_get hC fl_X5_26 dX5_fail_1 0 rfl rfl ?_
  refine x_iload_n hC 1 rfl dX5_fail_4 ?_
  refine x_callVI hC cw_X5_135 (c_X1_isChip (x := x) (m := (S 0 3)) hI.chips hch8) dX5_fail_5 [] rfl (Nat.le_of_ble_eq_true rfl) rfl (rm_okT hRm (by decide) (by decide)) 1 3 rfl rfl (fun r5 m5 hp5 => ?_)
  obtain ⟨rfl, rfl⟩ := hp5
  refine x_if_eqB hC 21 dX5_fail_8 rfl (fun h8 => ?_) (fun h8 => ?_)
  · -- 8 T
    exact x_thr hC hst hR hT hX cl_152 in_IA (by decide +kernel) hX.2.1.1 (thr_IA hC hX) to_1 (Or.inl ⟨by simp [sp_fail, h8], rfl⟩) dX5_fail_21 dX5_fail_24 dX5_fail_25 dX5_fail_27 dX5_fail_30 hRm (by decide)
  · -- 8 F
    obtain ⟨v, hv, rfl⟩ := isI_T h8
    have tv := tn_nI (v := v) (by omega)
    refine x_iload_n hC 2 rfl dX5_fail_11 ?_
    refine x_if_lt hC 21 dX5_fail_12 rfl (fun h12 => ?_) (fun h12 => ?_)
    · -- 12 T
      have g12 : isI 41 age = false := isI_neg h12
      exact x_thr hC hst hR hT hX cl_152 in_IA (by decide +kernel) hX.2.1.1 (thr_IA hC hX) to_1 (Or.inl ⟨by simp [sp_fail, h8, g12, tv], rfl⟩) dX5_fail_21 dX5_fail_24 dX5_fail_25 dX5_fail_27 dX5_fail_30 hRm (by decide)
    · -- 12 F
      refine x_iload_n hC 2 rfl dX5_fail_15 ?_
      refine x_bipush hC (v := (nI 40)) dX5_fail_16 rfl ?_
      refine x_icmp_le hC 31 dX5_fail_18 rfl (fun h18 => ?_) (fun h18 => ?_)
      · -- 18 T
        have g18 : isI 41 age = true := isI_mid1 (n := 40) (by decide) h12 h18
        obtain ⟨y, hy, rfl⟩ := isI_T g18
        have ty := tn_nI (v := y) (by omega)
        refine x_aload_n hC 0 rfl dX5_fail_31 ?_
        refine x_get hC fl_X5_26 dX5_fail_32 0 rfl rfl ?_
        refine x_get hC fl_X5_145 dX5_fail_35 3 rfl rfl ?_
        refine x_iload_n hC 1 rfl dX5_fail_38 ?_
        refine x_zald hC 13 1 rfl rfl (y := (bz (decide (S 6 v = 1)))) (by omega) (by decide) ((hI.chip v (by omega)).2.1) dX5_fail_39 ?_
        refine x_if_neB hC 53 dX5_fail_40 rfl (fun h40 => ?_) (fun h40 => ?_)
        · -- 40 T
          have hhp := of_decide_eq_true h40
          refine x_aload_n hC 0 rfl dX5_fail_53 ?_
          refine x_get hC fl_X5_42 dX5_fail_54 0 rfl rfl ?_
          refine x_aload_n hC 0 rfl dX5_fail_57 ?_
          refine x_get hC fl_X5_26 dX5_fail_58 0 rfl rfl ?_
          refine x_get hC fl_X5_164 dX5_fail_61 3 rfl rfl ?_
          refine x_iload_n hC 1 rfl dX5_fail_64 ?_
          refine x_iald hC 15 0 rfl rfl (y := (nI (S 8 v))) (by omega) (by decide) (((hI.chip v (by omega)).2.2 hhp).2) dX5_fail_65 ?_
          refine x_iload_n hC 2 rfl dX5_fail_66 ?_
          refine x_callVL hC cw_X5_167 (c_X3_harmful (key := (S 8 v)) (age := y) (n := (S 0 0)) (m := (S 0 1)) (k := (S 0 2)) (ch := (S 2)) (we := (S 3)) (W := (cw S)) hI.n hI.mask hn2 hmk31 hX8 hX9 hcb (by omega) hI.k hk6 hX11 hWb ((hV.chip v hv).2.2 hhp).2.2) dX5_fail_67 [] rfl (Nat.le_of_ble_eq_true rfl) rfl (rm_okT hRm (by decide) (by decide)) 3 5 rfl rfl (fun r67 m67 hp67 => ?_)
          obtain ⟨rfl, f, g, rfl⟩ := hp67
          refine x_topl (y := lN (failS S (S 8 v) y)) (harm_eq hV (S 8 v) y) ?_
          exact x_lretX hC hR dX5_fail_70 (⟨by simp [sp_fail, h8, g18, g18, hhp, tv, ty], by simp [sp_fail, h8, g18, g18, hhp, tv, ty], hI.fl f g⟩)
        · -- 40 F
          have hhp := of_decide_eq_false h40
          exact x_thr hC hst hR hT hX cl_159 in_IS (by decide +kernel) hX.2.1.2.1 (thr_IS hC hX) to_2 (Or.inr ⟨by simp [sp_fail, h8, g18, g18, hhp, tv, ty], rfl⟩) dX5_fail_43 dX5_fail_46 dX5_fail_47 dX5_fail_49 dX5_fail_52 hRm (by decide)
      · -- 18 F
        have g18 : isI 41 age = false := isI_big1 (n := 40) (by decide) h18
        exact x_thr hC hst hR hT hX cl_152 in_IA (by decide +kernel) hX.2.1.1 (thr_IA hC hX) to_1 (Or.inl ⟨by simp [sp_fail, h8, g18, g18, tv], rfl⟩) dX5_fail_21 dX5_fail_24 dX5_fail_25 dX5_fail_27 dX5_fail_30 hRm (by decide)
set_option maxHeartbeats 4000000 in
set_option maxRecDepth 100000 in
theorem c_X5_weight {l : Launch} {D : va_G} {c : Nat → ClassId} {a : Nat → Nat} {μ : Me} {sa : Nat → Nat} (hst : l.stackTraces = false) {x : Int32} {t : Bool} {S : SS} (hI : XI μ S) (hV : SV S) : KX l D (tyE c) (xw c a) yX5_weight cX5_weight 3 (rmT 45) [.ref (a 0), .int x, .int (bz t)] sa μ (fun r u => (sp_weight S x (bz t)).1 = 0 ∧ r = lN (sp_weight S x (bz t)).2 ∧ XI u S) (fun E => (sp_weight S x (bz t)).1 = 1 ∧ E = tIA) := by
  refine x_enterX (by decide) (Nat.le_of_ble_eq_true rfl) (fun F hl hD hn hRm hC hR hT hX => ?_)
  subst hl hD
  change XW F 0 0 (xw c a μ) [(0, .ref (a 0)), (1, .int x), (2, .int (bz t))] 0 []
  change FC F cX5_weight RX5 (tyE c) at hC
  have hn1 := hV.n1
  have hn2 := hV.n2
  have hpn := hV.pn
  have hk6 := hV.k
  have hpk := hV.pk
  have hpk1 := SV.pk1 S
  have hch8 := hV.chips
  have hmk := hV.mask
  have hmk31 : S 0 1 < 2 ^ 31 := by omega
  refine x_aload_n hC 0 rfl dX5_weight_0 ?_
  refine x_get hC fl_X5_10 dX5_weight_1 0 rfl rfl ?_
  refine x_iload_n hC 1 rfl dX5_weight_4 ?_
  refine x_callVI hC cw_X5_67 (c_X0_isWord (x := x) (n := (S 0 0)) (by first | assumption | exact hI.n | exact hI.mask | exact hI.k | exact hI.chips | omega) (by first | assumption | exact hI.n | exact hI.mask | exact hI.k | exact hI.chips | omega)) dX5_weight_5 [] rfl (Nat.le_of_ble_eq_true rfl) rfl (rm_okT hRm (by decide) (by decide)) 0 1 rfl rfl (fun r5 m5 hp5 => ?_)
  obtain ⟨rfl, rfl⟩ := hp5
  refine x_if_neB hC 21 dX5_weight_8 rfl (fun h8 => ?_) (fun h8 => ?_)
  · -- 8 T
    obtain ⟨v, hv, rfl⟩ := isI_T h8
    have tv := tn_nI (v := v) (by omega)
    refine x_iload_n hC 2 rfl dX5_weight_21 ?_
    refine x_if_eqB hC 33 dX5_weight_22 rfl (fun h22 => ?_) (fun h22 => ?_)
    · -- 22 T
      refine x_aload_n hC 0 rfl dX5_weight_33 ?_
      refine x_aload_n hC 0 rfl dX5_weight_34 ?_
      refine x_iload_n hC 1 rfl dX5_weight_35 ?_
      refine x_callVI hC cw_X5_178 (c_X5_likeliestKey (h := v) (S := S) hI hV (by omega)) dX5_weight_36 [.ref (a 0)] rfl (Nat.le_of_ble_eq_true rfl) rfl (rm_okT hRm (by decide) (by decide)) 5 0 rfl rfl (fun r36 m36 hp36 => ?_)
      obtain ⟨rfl, rfl⟩ := hp36
      refine x_iload_n hC 1 rfl dX5_weight_39 ?_
      refine x_callVL hC cw_X5_187 (c_X5_waysOfKey (key := (bgS S v)) (h := v) (S := S) hI hV (amax_lt _ hpk1) (by omega)) dX5_weight_40 [] rfl (Nat.le_of_ble_eq_true rfl) rfl (rm_okT hRm (by decide) (by decide)) 5 0 rfl rfl (fun r40 m40 hp40 => ?_)
      obtain ⟨rfl, rfl⟩ := hp40
      exact x_lretX hC hR dX5_weight_43 (⟨by simp [sp_weight, h8], by simp only [sp_weight, h8, if_true, tv]; rw [if_pos (by rw [h22]; rfl)], hI⟩)
    · -- 22 F
      refine x_aload_n hC 0 rfl dX5_weight_25 ?_
      refine x_iload_n hC 1 rfl dX5_weight_26 ?_
      refine x_callVL hC cw_X5_183 (c_X5_waysOfAllKeys (h := v) (S := S) hI hV (by omega)) dX5_weight_27 [] rfl (Nat.le_of_ble_eq_true rfl) rfl (rm_okT hRm (by decide) (by decide)) 5 0 rfl rfl (fun r27 m27 hp27 => ?_)
      obtain ⟨rfl, rfl⟩ := hp27
      refine x_goto hC 43 dX5_weight_30 rfl ?_
      exact x_lretX hC hR dX5_weight_43 (⟨by simp [sp_weight, h8], by simp only [sp_weight, h8, if_true, tv]; rw [if_neg (by rw [h22]; decide)], hI⟩)
  · -- 8 F
    exact x_thr hC hst hR hT hX cl_152 in_IA (by decide +kernel) hX.2.1.2.2 (thr_IA hC hX) to_1 (⟨by simp [sp_weight, h8], rfl⟩) dX5_weight_11 dX5_weight_14 dX5_weight_15 dX5_weight_17 dX5_weight_20 hRm (by decide)
