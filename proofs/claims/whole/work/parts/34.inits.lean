theorem dfX0 : ∀ j, j < 3 → defaultValue (tyX0 j) = vp_V [.int 0, .int 0, .null] j := fun j hj => by
  match j, hj with
  | 0, _ => rfl
  | 1, _ => rfl
  | 2, _ => rfl
  | j + 3, h => exact absurd h (by omega)
theorem dfX1 : ∀ j, j < 5 → defaultValue (tyX1 j) = vp_V [.int 0, .null, .null, .null, .null] j := fun j hj => by
  match j, hj with
  | 0, _ => rfl
  | 1, _ => rfl
  | 2, _ => rfl
  | 3, _ => rfl
  | 4, _ => rfl
  | j + 5, h => exact absurd h (by omega)
theorem dfX2 : ∀ j, j < 2 → defaultValue (tyX2 j) = vp_V [.int 0, .null] j := fun j hj => by
  match j, hj with
  | 0, _ => rfl
  | 1, _ => rfl
  | j + 2, h => exact absurd h (by omega)
theorem dfX3 : ∀ j, j < 4 → defaultValue (tyX3 j) = vp_V [.null, .null, .null, .null] j := fun j hj => by
  match j, hj with
  | 0, _ => rfl
  | 1, _ => rfl
  | 2, _ => rfl
  | 3, _ => rfl
  | j + 4, h => exact absurd h (by omega)
theorem dfX4 : ∀ j, j < 10 → defaultValue (tyX4 j) = vp_V [.int 0, .null, .null, .null, .int 0, .int 0, .null, .null, .null, .null] j := fun j hj => by
  match j, hj with
  | 0, _ => rfl
  | 1, _ => rfl
  | 2, _ => rfl
  | 3, _ => rfl
  | 4, _ => rfl
  | 5, _ => rfl
  | 6, _ => rfl
  | 7, _ => rfl
  | 8, _ => rfl
  | 9, _ => rfl
  | j + 10, h => exact absurd h (by omega)
theorem dfX5 : ∀ j, j < 6 → defaultValue (tyX5 j) = vp_V [.null, .null, .null, .null, .null, .null] j := fun j hj => by
  match j, hj with
  | 0, _ => rfl
  | 1, _ => rfl
  | 2, _ => rfl
  | 3, _ => rfl
  | 4, _ => rfl
  | 5, _ => rfl
  | j + 6, h => exact absurd h (by omega)
theorem dfX6 : ∀ j, j < 25 → defaultValue (tyX6 j) = vp_V [.null, .null, .null, .null, .null, .null, .null, .null, .null, .null, .null, .int 0, .int 0, .int 0, .int 0, .int 0, .null, .null, .null, .int 0, .null, .int 0, .null, .null, .null] j := fun j hj => by
  match j, hj with
  | 0, _ => rfl
  | 1, _ => rfl
  | 2, _ => rfl
  | 3, _ => rfl
  | 4, _ => rfl
  | 5, _ => rfl
  | 6, _ => rfl
  | 7, _ => rfl
  | 8, _ => rfl
  | 9, _ => rfl
  | 10, _ => rfl
  | 11, _ => rfl
  | 12, _ => rfl
  | 13, _ => rfl
  | 14, _ => rfl
  | 15, _ => rfl
  | 16, _ => rfl
  | 17, _ => rfl
  | 18, _ => rfl
  | 19, _ => rfl
  | 20, _ => rfl
  | 21, _ => rfl
  | 22, _ => rfl
  | 23, _ => rfl
  | 24, _ => rfl
  | j + 25, h => exact absurd h (by omega)
set_option maxHeartbeats 4000000 in
set_option maxRecDepth 100000 in
theorem c_X1_init {l : Launch} {D : va_G} {c : Nat → ClassId} {h : Nat} : KN l D (tyE c) yX1_init cX1_init 1 (rmN 1 4 32) [.ref h] [(h, .inr (1, [.int 0, .null, .null, .null, .null]))] 4 32 (fun u => ∃ q1 q2 q3 q4 : Nat, u = [(h, .inr (1, [.int (nI 0), .ref q1, .ref q2, .ref q3, .ref q4])), (q1, .inl (c 0, 8, .inl (fun _ => 0))), (q2, .inl (c 1, 8, .inl (fun _ => 0))), (q3, .inl (c 0, 8, .inl (fun _ => 0))), (q4, .inl (c 0, 8, .inl (fun _ => 0)))]) := by
  refine x_enterN (by decide) rfl (Nat.le_of_ble_eq_true rfl) (fun F hl hD hn hRm hC hR hNX => ?_)
  subst hl hD
  change FC F cX1_init RX1 (tyE c) at hC
  change XW F 0 0 [(h, .inr (1, [.int 0, .null, .null, .null, .null]))] [(0, .ref h)] 0 []
  refine x_aload_n hC 0 rfl dX1_init_0 ?_
  refine x_objI hC oi_X1_1 oi_i oi_c dX1_init_1 (Nat.le_of_ble_eq_true rfl) hRm (by decide) ?_
  refine x_aload_n hC 0 rfl dX1_init_4 ?_
  refine x_iconst hC (v := (nI 0)) dX1_init_5 rfl ?_
  refine x_put hC fp_X1_7 dX1_init_6 0 rfl rfl rfl (Nat.le_of_ble_eq_true rfl) _ rfl ?_
  change XW F 0 0 [(h, .inr (1, [.int (nI 0), .null, .null, .null, .null]))] [(0, .ref h)] 9 []
  refine x_aload_n hC 0 rfl dX1_init_9 ?_
  refine x_bipush hC (v := (nI 8)) dX1_init_10 rfl ?_
  refine x_newa hC (atype := .int) (ty := .int) (N := 8) (a0 := (8, .inl (fun _ => 0))) 0 rfl rfl ar_i (fun _ => rfl) (Nat.le_of_ble_eq_true rfl) (Nat.le_of_ble_eq_true rfl) dX1_init_12 (by rw [hRm]; exact Nat.le_of_ble_eq_true rfl) (by rw [hRm]; exact Nat.le_of_ble_eq_true rfl) (fun q1 => ?_)
  change XW F 1 8 [(h, .inr (1, [.int (nI 0), .null, .null, .null, .null])), (q1, .inl (c 0, 8, .inl (fun _ => 0)))] [(0, .ref h)] 14 [.ref q1, .ref h]
  refine x_putF hC hR.2.1 fq_X1_13 dX1_init_14 0 rfl rfl rfl (Nat.le_of_ble_eq_true rfl) _ rfl ?_
  change XW F 1 8 [(h, .inr (1, [.int (nI 0), .ref q1, .null, .null, .null])), (q1, .inl (c 0, 8, .inl (fun _ => 0)))] [(0, .ref h)] 17 []
  refine x_aload_n hC 0 rfl dX1_init_17 ?_
  refine x_bipush hC (v := (nI 8)) dX1_init_18 rfl ?_
  refine x_newa hC (atype := .boolean) (ty := .boolean) (N := 8) (a0 := (8, .inl (fun _ => 0))) 1 rfl rfl ar_z (fun _ => rfl) (Nat.le_of_ble_eq_true rfl) (Nat.le_of_ble_eq_true rfl) dX1_init_20 (by rw [hRm]; exact Nat.le_of_ble_eq_true rfl) (by rw [hRm]; exact Nat.le_of_ble_eq_true rfl) (fun q2 => ?_)
  change XW F 2 16 [(h, .inr (1, [.int (nI 0), .ref q1, .null, .null, .null])), (q1, .inl (c 0, 8, .inl (fun _ => 0))), (q2, .inl (c 1, 8, .inl (fun _ => 0)))] [(0, .ref h)] 22 [.ref q2, .ref h]
  refine x_putF hC hR.2.1 fq_X1_17 dX1_init_22 0 rfl rfl rfl (Nat.le_of_ble_eq_true rfl) _ rfl ?_
  change XW F 2 16 [(h, .inr (1, [.int (nI 0), .ref q1, .ref q2, .null, .null])), (q1, .inl (c 0, 8, .inl (fun _ => 0))), (q2, .inl (c 1, 8, .inl (fun _ => 0)))] [(0, .ref h)] 25 []
  refine x_aload_n hC 0 rfl dX1_init_25 ?_
  refine x_bipush hC (v := (nI 8)) dX1_init_26 rfl ?_
  refine x_newa hC (atype := .int) (ty := .int) (N := 8) (a0 := (8, .inl (fun _ => 0))) 0 rfl rfl ar_i (fun _ => rfl) (Nat.le_of_ble_eq_true rfl) (Nat.le_of_ble_eq_true rfl) dX1_init_28 (by rw [hRm]; exact Nat.le_of_ble_eq_true rfl) (by rw [hRm]; exact Nat.le_of_ble_eq_true rfl) (fun q3 => ?_)
  change XW F 3 24 [(h, .inr (1, [.int (nI 0), .ref q1, .ref q2, .null, .null])), (q1, .inl (c 0, 8, .inl (fun _ => 0))), (q2, .inl (c 1, 8, .inl (fun _ => 0))), (q3, .inl (c 0, 8, .inl (fun _ => 0)))] [(0, .ref h)] 30 [.ref q3, .ref h]
  refine x_putF hC hR.2.1 fq_X1_21 dX1_init_30 0 rfl rfl rfl (Nat.le_of_ble_eq_true rfl) _ rfl ?_
  change XW F 3 24 [(h, .inr (1, [.int (nI 0), .ref q1, .ref q2, .ref q3, .null])), (q1, .inl (c 0, 8, .inl (fun _ => 0))), (q2, .inl (c 1, 8, .inl (fun _ => 0))), (q3, .inl (c 0, 8, .inl (fun _ => 0)))] [(0, .ref h)] 33 []
  refine x_aload_n hC 0 rfl dX1_init_33 ?_
  refine x_bipush hC (v := (nI 8)) dX1_init_34 rfl ?_
  refine x_newa hC (atype := .int) (ty := .int) (N := 8) (a0 := (8, .inl (fun _ => 0))) 0 rfl rfl ar_i (fun _ => rfl) (Nat.le_of_ble_eq_true rfl) (Nat.le_of_ble_eq_true rfl) dX1_init_36 (by rw [hRm]; exact Nat.le_of_ble_eq_true rfl) (by rw [hRm]; exact Nat.le_of_ble_eq_true rfl) (fun q4 => ?_)
  change XW F 4 32 [(h, .inr (1, [.int (nI 0), .ref q1, .ref q2, .ref q3, .null])), (q1, .inl (c 0, 8, .inl (fun _ => 0))), (q2, .inl (c 1, 8, .inl (fun _ => 0))), (q3, .inl (c 0, 8, .inl (fun _ => 0))), (q4, .inl (c 0, 8, .inl (fun _ => 0)))] [(0, .ref h)] 38 [.ref q4, .ref h]
  refine x_putF hC hR.2.1 fq_X1_24 dX1_init_38 0 rfl rfl rfl (Nat.le_of_ble_eq_true rfl) _ rfl ?_
  change XW F 4 32 [(h, .inr (1, [.int (nI 0), .ref q1, .ref q2, .ref q3, .ref q4])), (q1, .inl (c 0, 8, .inl (fun _ => 0))), (q2, .inl (c 1, 8, .inl (fun _ => 0))), (q3, .inl (c 0, 8, .inl (fun _ => 0))), (q4, .inl (c 0, 8, .inl (fun _ => 0)))] [(0, .ref h)] 41 []
  exact x_vretN hC hR dX1_init_41 ⟨q1, q2, q3, q4, rfl⟩
set_option maxHeartbeats 4000000 in
set_option maxRecDepth 100000 in
theorem c_X2_init {l : Launch} {D : va_G} {c : Nat → ClassId} {h : Nat} : KN l D (tyE c) yX2_init cX2_init 1 (rmN 1 1 64) [.ref h] [(h, .inr (2, [.int 0, .null]))] 1 64 (fun u => ∃ q1 : Nat, u = [(h, .inr (2, [.int (nI 0), .ref q1])), (q1, .inl (c 0, 64, .inl (fun _ => 0)))]) := by
  refine x_enterN (by decide) rfl (Nat.le_of_ble_eq_true rfl) (fun F hl hD hn hRm hC hR hNX => ?_)
  subst hl hD
  change FC F cX2_init RX2 (tyE c) at hC
  change XW F 0 0 [(h, .inr (2, [.int 0, .null]))] [(0, .ref h)] 0 []
  refine x_aload_n hC 0 rfl dX2_init_0 ?_
  refine x_objI hC oi_X2_1 oi_i oi_c dX2_init_1 (Nat.le_of_ble_eq_true rfl) hRm (by decide) ?_
  refine x_aload_n hC 0 rfl dX2_init_4 ?_
  refine x_iconst hC (v := (nI 0)) dX2_init_5 rfl ?_
  refine x_put hC fp_X2_7 dX2_init_6 0 rfl rfl rfl (Nat.le_of_ble_eq_true rfl) _ rfl ?_
  change XW F 0 0 [(h, .inr (2, [.int (nI 0), .null]))] [(0, .ref h)] 9 []
  refine x_aload_n hC 0 rfl dX2_init_9 ?_
  refine x_bipush hC (v := (nI 64)) dX2_init_10 rfl ?_
  refine x_newa hC (atype := .int) (ty := .int) (N := 64) (a0 := (64, .inl (fun _ => 0))) 0 rfl rfl ar_i (fun _ => rfl) (Nat.le_of_ble_eq_true rfl) (Nat.le_of_ble_eq_true rfl) dX2_init_12 (by rw [hRm]; exact Nat.le_of_ble_eq_true rfl) (by rw [hRm]; exact Nat.le_of_ble_eq_true rfl) (fun q1 => ?_)
  change XW F 1 64 [(h, .inr (2, [.int (nI 0), .null])), (q1, .inl (c 0, 64, .inl (fun _ => 0)))] [(0, .ref h)] 14 [.ref q1, .ref h]
  refine x_putF hC hR.2.1 fq_X2_13 dX2_init_14 0 rfl rfl rfl (Nat.le_of_ble_eq_true rfl) _ rfl ?_
  change XW F 1 64 [(h, .inr (2, [.int (nI 0), .ref q1])), (q1, .inl (c 0, 64, .inl (fun _ => 0)))] [(0, .ref h)] 17 []
  exact x_vretN hC hR dX2_init_17 ⟨q1, rfl⟩
set_option maxHeartbeats 4000000 in
set_option maxRecDepth 100000 in
theorem c_X3_init {l : Launch} {D : va_G} {c : Nat → ClassId} {h e1 e2 : Nat} : KN l D (tyE c) yX3_init cX3_init 3 (rmN 1 2 28) [.ref h, .ref e1, .ref e2] [(h, .inr (3, [.null, .null, .null, .null]))] 2 28 (fun u => ∃ q1 q2 : Nat, u = [(h, .inr (3, [.ref e1, .ref e2, .ref q1, .ref q2])), (q1, .inl (c 0, 14, .inl (fun _ => 0))), (q2, .inl (c 0, 14, .inl (fun _ => 0)))]) := by
  refine x_enterN (by decide) rfl (Nat.le_of_ble_eq_true rfl) (fun F hl hD hn hRm hC hR hNX => ?_)
  subst hl hD
  change FC F cX3_init RX3 (tyE c) at hC
  change XW F 0 0 [(h, .inr (3, [.null, .null, .null, .null]))] [(0, .ref h), (1, .ref e1), (2, .ref e2)] 0 []
  refine x_aload_n hC 0 rfl dX3_init_0 ?_
  refine x_objI hC oi_X3_3 oi_i oi_c dX3_init_1 (Nat.le_of_ble_eq_true rfl) hRm (by decide) ?_
  refine x_aload_n hC 0 rfl dX3_init_4 ?_
  refine x_bipush hC (v := (nI 14)) dX3_init_5 rfl ?_
  refine x_newa hC (atype := .int) (ty := .int) (N := 14) (a0 := (14, .inl (fun _ => 0))) 0 rfl rfl ar_i (fun _ => rfl) (Nat.le_of_ble_eq_true rfl) (Nat.le_of_ble_eq_true rfl) dX3_init_7 (by rw [hRm]; exact Nat.le_of_ble_eq_true rfl) (by rw [hRm]; exact Nat.le_of_ble_eq_true rfl) (fun q1 => ?_)
  change XW F 1 14 [(h, .inr (3, [.null, .null, .null, .null])), (q1, .inl (c 0, 14, .inl (fun _ => 0)))] [(0, .ref h), (1, .ref e1), (2, .ref e2)] 9 [.ref q1, .ref h]
  refine x_putF hC hR.2.1 fq_X3_11 dX3_init_9 0 rfl rfl rfl (Nat.le_of_ble_eq_true rfl) _ rfl ?_
  change XW F 1 14 [(h, .inr (3, [.null, .null, .ref q1, .null])), (q1, .inl (c 0, 14, .inl (fun _ => 0)))] [(0, .ref h), (1, .ref e1), (2, .ref e2)] 12 []
  refine x_aload_n hC 0 rfl dX3_init_12 ?_
  refine x_bipush hC (v := (nI 14)) dX3_init_13 rfl ?_
  refine x_newa hC (atype := .int) (ty := .int) (N := 14) (a0 := (14, .inl (fun _ => 0))) 0 rfl rfl ar_i (fun _ => rfl) (Nat.le_of_ble_eq_true rfl) (Nat.le_of_ble_eq_true rfl) dX3_init_15 (by rw [hRm]; exact Nat.le_of_ble_eq_true rfl) (by rw [hRm]; exact Nat.le_of_ble_eq_true rfl) (fun q2 => ?_)
  change XW F 2 28 [(h, .inr (3, [.null, .null, .ref q1, .null])), (q1, .inl (c 0, 14, .inl (fun _ => 0))), (q2, .inl (c 0, 14, .inl (fun _ => 0)))] [(0, .ref h), (1, .ref e1), (2, .ref e2)] 17 [.ref q2, .ref h]
  refine x_putF hC hR.2.1 fq_X3_17 dX3_init_17 0 rfl rfl rfl (Nat.le_of_ble_eq_true rfl) _ rfl ?_
  change XW F 2 28 [(h, .inr (3, [.null, .null, .ref q1, .ref q2])), (q1, .inl (c 0, 14, .inl (fun _ => 0))), (q2, .inl (c 0, 14, .inl (fun _ => 0)))] [(0, .ref h), (1, .ref e1), (2, .ref e2)] 20 []
  refine x_aload_n hC 0 rfl dX3_init_20 ?_
  refine x_aload_n hC 1 rfl dX3_init_21 ?_
  refine x_putF hC hR.2.1 fq_X3_20 dX3_init_22 0 rfl rfl rfl (Nat.le_of_ble_eq_true rfl) _ rfl ?_
  change XW F 2 28 [(h, .inr (3, [.ref e1, .null, .ref q1, .ref q2])), (q1, .inl (c 0, 14, .inl (fun _ => 0))), (q2, .inl (c 0, 14, .inl (fun _ => 0)))] [(0, .ref h), (1, .ref e1), (2, .ref e2)] 25 []
  refine x_aload_n hC 0 rfl dX3_init_25 ?_
  refine x_aload_n hC 2 rfl dX3_init_26 ?_
  refine x_putF hC hR.2.1 fq_X3_24 dX3_init_27 0 rfl rfl rfl (Nat.le_of_ble_eq_true rfl) _ rfl ?_
  change XW F 2 28 [(h, .inr (3, [.ref e1, .ref e2, .ref q1, .ref q2])), (q1, .inl (c 0, 14, .inl (fun _ => 0))), (q2, .inl (c 0, 14, .inl (fun _ => 0)))] [(0, .ref h), (1, .ref e1), (2, .ref e2)] 30 []
  exact x_vretN hC hR dX3_init_30 ⟨q1, q2, rfl⟩
set_option maxHeartbeats 4000000 in
set_option maxRecDepth 100000 in
theorem c_X4_init {l : Launch} {D : va_G} {c : Nat → ClassId} {h : Nat} : KN l D (tyE c) yX4_init cX4_init 1 (rmN 1 7 89) [.ref h] [(h, .inr (4, [.int 0, .null, .null, .null, .int 0, .int 0, .null, .null, .null, .null]))] 7 89 (fun u => ∃ q1 q2 q3 q4 q5 q6 q7 : Nat, u = [(h, .inr (4, [.int (nI 0), .ref q1, .ref q2, .ref q3, .int (nI 0), .int (nI 0), .ref q4, .ref q5, .ref q6, .ref q7])), (q1, .inl (c 1, 16, .inl (fun _ => 0))), (q2, .inl (c 0, 16, .inl (fun _ => 0))), (q3, .inl (c 1, 16, .inl (fun _ => 0))), (q4, .inl (c 0, 5, .inl (fun _ => 0))), (q5, .inl (c 0, 16, .inl (fun _ => 0))), (q6, .inl (c 0, 4, .inl (fun _ => 0))), (q7, .inl (c 0, 16, .inl (fun _ => 0)))]) := by
  refine x_enterN (by decide) rfl (Nat.le_of_ble_eq_true rfl) (fun F hl hD hn hRm hC hR hNX => ?_)
  subst hl hD
  change FC F cX4_init RX4 (tyE c) at hC
  change XW F 0 0 [(h, .inr (4, [.int 0, .null, .null, .null, .int 0, .int 0, .null, .null, .null, .null]))] [(0, .ref h)] 0 []
  refine x_aload_n hC 0 rfl dX4_init_0 ?_
  refine x_objI hC oi_X4_3 oi_i oi_c dX4_init_1 (Nat.le_of_ble_eq_true rfl) hRm (by decide) ?_
  refine x_aload_n hC 0 rfl dX4_init_4 ?_
  refine x_iconst hC (v := (nI 0)) dX4_init_5 rfl ?_
  refine x_put hC fp_X4_9 dX4_init_6 0 rfl rfl rfl (Nat.le_of_ble_eq_true rfl) _ rfl ?_
  change XW F 0 0 [(h, .inr (4, [.int (nI 0), .null, .null, .null, .int 0, .int 0, .null, .null, .null, .null]))] [(0, .ref h)] 9 []
  refine x_aload_n hC 0 rfl dX4_init_9 ?_
  refine x_bipush hC (v := (nI 16)) dX4_init_10 rfl ?_
  refine x_newa hC (atype := .boolean) (ty := .boolean) (N := 16) (a0 := (16, .inl (fun _ => 0))) 1 rfl rfl ar_z (fun _ => rfl) (Nat.le_of_ble_eq_true rfl) (Nat.le_of_ble_eq_true rfl) dX4_init_12 (by rw [hRm]; exact Nat.le_of_ble_eq_true rfl) (by rw [hRm]; exact Nat.le_of_ble_eq_true rfl) (fun q1 => ?_)
  change XW F 1 16 [(h, .inr (4, [.int (nI 0), .null, .null, .null, .int 0, .int 0, .null, .null, .null, .null])), (q1, .inl (c 1, 16, .inl (fun _ => 0)))] [(0, .ref h)] 14 [.ref q1, .ref h]
  refine x_putF hC hR.2.1 fq_X4_13 dX4_init_14 0 rfl rfl rfl (Nat.le_of_ble_eq_true rfl) _ rfl ?_
  change XW F 1 16 [(h, .inr (4, [.int (nI 0), .ref q1, .null, .null, .int 0, .int 0, .null, .null, .null, .null])), (q1, .inl (c 1, 16, .inl (fun _ => 0)))] [(0, .ref h)] 17 []
  refine x_aload_n hC 0 rfl dX4_init_17 ?_
  refine x_bipush hC (v := (nI 16)) dX4_init_18 rfl ?_
  refine x_newa hC (atype := .int) (ty := .int) (N := 16) (a0 := (16, .inl (fun _ => 0))) 0 rfl rfl ar_i (fun _ => rfl) (Nat.le_of_ble_eq_true rfl) (Nat.le_of_ble_eq_true rfl) dX4_init_20 (by rw [hRm]; exact Nat.le_of_ble_eq_true rfl) (by rw [hRm]; exact Nat.le_of_ble_eq_true rfl) (fun q2 => ?_)
  change XW F 2 32 [(h, .inr (4, [.int (nI 0), .ref q1, .null, .null, .int 0, .int 0, .null, .null, .null, .null])), (q1, .inl (c 1, 16, .inl (fun _ => 0))), (q2, .inl (c 0, 16, .inl (fun _ => 0)))] [(0, .ref h)] 22 [.ref q2, .ref h]
  refine x_putF hC hR.2.1 fq_X4_17 dX4_init_22 0 rfl rfl rfl (Nat.le_of_ble_eq_true rfl) _ rfl ?_
  change XW F 2 32 [(h, .inr (4, [.int (nI 0), .ref q1, .ref q2, .null, .int 0, .int 0, .null, .null, .null, .null])), (q1, .inl (c 1, 16, .inl (fun _ => 0))), (q2, .inl (c 0, 16, .inl (fun _ => 0)))] [(0, .ref h)] 25 []
  refine x_aload_n hC 0 rfl dX4_init_25 ?_
  refine x_bipush hC (v := (nI 16)) dX4_init_26 rfl ?_
  refine x_newa hC (atype := .boolean) (ty := .boolean) (N := 16) (a0 := (16, .inl (fun _ => 0))) 1 rfl rfl ar_z (fun _ => rfl) (Nat.le_of_ble_eq_true rfl) (Nat.le_of_ble_eq_true rfl) dX4_init_28 (by rw [hRm]; exact Nat.le_of_ble_eq_true rfl) (by rw [hRm]; exact Nat.le_of_ble_eq_true rfl) (fun q3 => ?_)
  change XW F 3 48 [(h, .inr (4, [.int (nI 0), .ref q1, .ref q2, .null, .int 0, .int 0, .null, .null, .null, .null])), (q1, .inl (c 1, 16, .inl (fun _ => 0))), (q2, .inl (c 0, 16, .inl (fun _ => 0))), (q3, .inl (c 1, 16, .inl (fun _ => 0)))] [(0, .ref h)] 30 [.ref q3, .ref h]
  refine x_putF hC hR.2.1 fq_X4_21 dX4_init_30 0 rfl rfl rfl (Nat.le_of_ble_eq_true rfl) _ rfl ?_
  change XW F 3 48 [(h, .inr (4, [.int (nI 0), .ref q1, .ref q2, .ref q3, .int 0, .int 0, .null, .null, .null, .null])), (q1, .inl (c 1, 16, .inl (fun _ => 0))), (q2, .inl (c 0, 16, .inl (fun _ => 0))), (q3, .inl (c 1, 16, .inl (fun _ => 0)))] [(0, .ref h)] 33 []
  refine x_aload_n hC 0 rfl dX4_init_33 ?_
  refine x_iconst hC (v := (nI 0)) dX4_init_34 rfl ?_
  refine x_put hC fp_X4_24 dX4_init_35 0 rfl rfl rfl (Nat.le_of_ble_eq_true rfl) _ rfl ?_
  change XW F 3 48 [(h, .inr (4, [.int (nI 0), .ref q1, .ref q2, .ref q3, .int (nI 0), .int 0, .null, .null, .null, .null])), (q1, .inl (c 1, 16, .inl (fun _ => 0))), (q2, .inl (c 0, 16, .inl (fun _ => 0))), (q3, .inl (c 1, 16, .inl (fun _ => 0)))] [(0, .ref h)] 38 []
  refine x_aload_n hC 0 rfl dX4_init_38 ?_
  refine x_iconst hC (v := (nI 0)) dX4_init_39 rfl ?_
  refine x_put hC fp_X4_28 dX4_init_40 0 rfl rfl rfl (Nat.le_of_ble_eq_true rfl) _ rfl ?_
  change XW F 3 48 [(h, .inr (4, [.int (nI 0), .ref q1, .ref q2, .ref q3, .int (nI 0), .int (nI 0), .null, .null, .null, .null])), (q1, .inl (c 1, 16, .inl (fun _ => 0))), (q2, .inl (c 0, 16, .inl (fun _ => 0))), (q3, .inl (c 1, 16, .inl (fun _ => 0)))] [(0, .ref h)] 43 []
  refine x_aload_n hC 0 rfl dX4_init_43 ?_
  refine x_iconst hC (v := (nI 5)) dX4_init_44 rfl ?_
  refine x_newa hC (atype := .int) (ty := .int) (N := 5) (a0 := (5, .inl (fun _ => 0))) 0 rfl rfl ar_i (fun _ => rfl) (Nat.le_of_ble_eq_true rfl) (Nat.le_of_ble_eq_true rfl) dX4_init_45 (by rw [hRm]; exact Nat.le_of_ble_eq_true rfl) (by rw [hRm]; exact Nat.le_of_ble_eq_true rfl) (fun q4 => ?_)
  change XW F 4 53 [(h, .inr (4, [.int (nI 0), .ref q1, .ref q2, .ref q3, .int (nI 0), .int (nI 0), .null, .null, .null, .null])), (q1, .inl (c 1, 16, .inl (fun _ => 0))), (q2, .inl (c 0, 16, .inl (fun _ => 0))), (q3, .inl (c 1, 16, .inl (fun _ => 0))), (q4, .inl (c 0, 5, .inl (fun _ => 0)))] [(0, .ref h)] 47 [.ref q4, .ref h]
  refine x_putF hC hR.2.1 fq_X4_31 dX4_init_47 0 rfl rfl rfl (Nat.le_of_ble_eq_true rfl) _ rfl ?_
  change XW F 4 53 [(h, .inr (4, [.int (nI 0), .ref q1, .ref q2, .ref q3, .int (nI 0), .int (nI 0), .ref q4, .null, .null, .null])), (q1, .inl (c 1, 16, .inl (fun _ => 0))), (q2, .inl (c 0, 16, .inl (fun _ => 0))), (q3, .inl (c 1, 16, .inl (fun _ => 0))), (q4, .inl (c 0, 5, .inl (fun _ => 0)))] [(0, .ref h)] 50 []
  refine x_aload_n hC 0 rfl dX4_init_50 ?_
  refine x_bipush hC (v := (nI 16)) dX4_init_51 rfl ?_
  refine x_newa hC (atype := .int) (ty := .int) (N := 16) (a0 := (16, .inl (fun _ => 0))) 0 rfl rfl ar_i (fun _ => rfl) (Nat.le_of_ble_eq_true rfl) (Nat.le_of_ble_eq_true rfl) dX4_init_53 (by rw [hRm]; exact Nat.le_of_ble_eq_true rfl) (by rw [hRm]; exact Nat.le_of_ble_eq_true rfl) (fun q5 => ?_)
  change XW F 5 69 [(h, .inr (4, [.int (nI 0), .ref q1, .ref q2, .ref q3, .int (nI 0), .int (nI 0), .ref q4, .null, .null, .null])), (q1, .inl (c 1, 16, .inl (fun _ => 0))), (q2, .inl (c 0, 16, .inl (fun _ => 0))), (q3, .inl (c 1, 16, .inl (fun _ => 0))), (q4, .inl (c 0, 5, .inl (fun _ => 0))), (q5, .inl (c 0, 16, .inl (fun _ => 0)))] [(0, .ref h)] 55 [.ref q5, .ref h]
  refine x_putF hC hR.2.1 fq_X4_34 dX4_init_55 0 rfl rfl rfl (Nat.le_of_ble_eq_true rfl) _ rfl ?_
  change XW F 5 69 [(h, .inr (4, [.int (nI 0), .ref q1, .ref q2, .ref q3, .int (nI 0), .int (nI 0), .ref q4, .ref q5, .null, .null])), (q1, .inl (c 1, 16, .inl (fun _ => 0))), (q2, .inl (c 0, 16, .inl (fun _ => 0))), (q3, .inl (c 1, 16, .inl (fun _ => 0))), (q4, .inl (c 0, 5, .inl (fun _ => 0))), (q5, .inl (c 0, 16, .inl (fun _ => 0)))] [(0, .ref h)] 58 []
  refine x_aload_n hC 0 rfl dX4_init_58 ?_
  refine x_iconst hC (v := (nI 4)) dX4_init_59 rfl ?_
  refine x_newa hC (atype := .int) (ty := .int) (N := 4) (a0 := (4, .inl (fun _ => 0))) 0 rfl rfl ar_i (fun _ => rfl) (Nat.le_of_ble_eq_true rfl) (Nat.le_of_ble_eq_true rfl) dX4_init_60 (by rw [hRm]; exact Nat.le_of_ble_eq_true rfl) (by rw [hRm]; exact Nat.le_of_ble_eq_true rfl) (fun q6 => ?_)
  change XW F 6 73 [(h, .inr (4, [.int (nI 0), .ref q1, .ref q2, .ref q3, .int (nI 0), .int (nI 0), .ref q4, .ref q5, .null, .null])), (q1, .inl (c 1, 16, .inl (fun _ => 0))), (q2, .inl (c 0, 16, .inl (fun _ => 0))), (q3, .inl (c 1, 16, .inl (fun _ => 0))), (q4, .inl (c 0, 5, .inl (fun _ => 0))), (q5, .inl (c 0, 16, .inl (fun _ => 0))), (q6, .inl (c 0, 4, .inl (fun _ => 0)))] [(0, .ref h)] 62 [.ref q6, .ref h]
  refine x_putF hC hR.2.1 fq_X4_37 dX4_init_62 0 rfl rfl rfl (Nat.le_of_ble_eq_true rfl) _ rfl ?_
  change XW F 6 73 [(h, .inr (4, [.int (nI 0), .ref q1, .ref q2, .ref q3, .int (nI 0), .int (nI 0), .ref q4, .ref q5, .ref q6, .null])), (q1, .inl (c 1, 16, .inl (fun _ => 0))), (q2, .inl (c 0, 16, .inl (fun _ => 0))), (q3, .inl (c 1, 16, .inl (fun _ => 0))), (q4, .inl (c 0, 5, .inl (fun _ => 0))), (q5, .inl (c 0, 16, .inl (fun _ => 0))), (q6, .inl (c 0, 4, .inl (fun _ => 0)))] [(0, .ref h)] 65 []
  refine x_aload_n hC 0 rfl dX4_init_65 ?_
  refine x_bipush hC (v := (nI 16)) dX4_init_66 rfl ?_
  refine x_newa hC (atype := .int) (ty := .int) (N := 16) (a0 := (16, .inl (fun _ => 0))) 0 rfl rfl ar_i (fun _ => rfl) (Nat.le_of_ble_eq_true rfl) (Nat.le_of_ble_eq_true rfl) dX4_init_68 (by rw [hRm]; exact Nat.le_of_ble_eq_true rfl) (by rw [hRm]; exact Nat.le_of_ble_eq_true rfl) (fun q7 => ?_)
  change XW F 7 89 [(h, .inr (4, [.int (nI 0), .ref q1, .ref q2, .ref q3, .int (nI 0), .int (nI 0), .ref q4, .ref q5, .ref q6, .null])), (q1, .inl (c 1, 16, .inl (fun _ => 0))), (q2, .inl (c 0, 16, .inl (fun _ => 0))), (q3, .inl (c 1, 16, .inl (fun _ => 0))), (q4, .inl (c 0, 5, .inl (fun _ => 0))), (q5, .inl (c 0, 16, .inl (fun _ => 0))), (q6, .inl (c 0, 4, .inl (fun _ => 0))), (q7, .inl (c 0, 16, .inl (fun _ => 0)))] [(0, .ref h)] 70 [.ref q7, .ref h]
  refine x_putF hC hR.2.1 fq_X4_40 dX4_init_70 0 rfl rfl rfl (Nat.le_of_ble_eq_true rfl) _ rfl ?_
  change XW F 7 89 [(h, .inr (4, [.int (nI 0), .ref q1, .ref q2, .ref q3, .int (nI 0), .int (nI 0), .ref q4, .ref q5, .ref q6, .ref q7])), (q1, .inl (c 1, 16, .inl (fun _ => 0))), (q2, .inl (c 0, 16, .inl (fun _ => 0))), (q3, .inl (c 1, 16, .inl (fun _ => 0))), (q4, .inl (c 0, 5, .inl (fun _ => 0))), (q5, .inl (c 0, 16, .inl (fun _ => 0))), (q6, .inl (c 0, 4, .inl (fun _ => 0))), (q7, .inl (c 0, 16, .inl (fun _ => 0)))] [(0, .ref h)] 73 []
  exact x_vretN hC hR dX4_init_73 ⟨q1, q2, q3, q4, q5, q6, q7, rfl⟩
theorem up2 {f g : Nat → Int32} {i : Nat} {x y : Int32} (hf : ∀ j, j < i → f j = x ∧ g j = y) {j : Nat} (hj : j < i + 1) : upd f i x j = x ∧ upd g i y j = y := by
  by_cases e : j = i
  · subst e; exact ⟨upd_s _ _ _, upd_s _ _ _⟩
  · rw [upd_n e, upd_n e]; exact hf j (by omega)
theorem up1 {f : Nat → Int32} {i : Nat} {x : Int32} (hf : ∀ j, j < i → f j = x) {j : Nat} (hj : j < i + 1) : upd f i x j = x := by
  by_cases e : j = i
  · subst e; exact upd_s _ _ _
  · rw [upd_n e]; exact hf j (by omega)
set_option maxHeartbeats 4000000 in
set_option maxRecDepth 100000 in
theorem c_X0_init {l : Launch} {D : va_G} {c : Nat → ClassId} {h : Nat} : KN l D (tyE c) yX0_init cX0_init 2 (rmN 1 4 45) [.ref h] [(h, .inr (0, [.int 0, .int 0, .null]))] 4 45 (fun u => ∃ (q1 q2 q3 q4 : Nat) (f8 f10 : Nat → Int32), (∀ j, j < 14 → f8 j = nI 1 ∧ f10 j = nI 4) ∧ u = [(h, .inr (0, [.int (nI 8), .int (nI 0), .ref q1])), (q1, .inl (c 3, 3, .inr (.inr (.inr (.inr (fun j => if j = 0 then some q2 else if j = 1 then some q3 else some q4)))))), (q2, .inl (c 0, 14, .inl f8)), (q3, .inl (c 0, 14, .inl (fun _ => 0))), (q4, .inl (c 0, 14, .inl f10))]) := by
  refine x_enterN (by decide) rfl (Nat.le_of_ble_eq_true rfl) (fun F hl hD hn hRm hC hR hNX => ?_)
  subst hl hD
  change FC F cX0_init RX0 (tyE c) at hC
  change XW F 0 0 [(h, .inr (0, [.int 0, .int 0, .null]))] [(0, .ref h)] 0 []
  refine x_aload_n hC 0 rfl dX0_init_0 ?_
  refine x_objI hC oi_X0_3 oi_i oi_c dX0_init_1 (Nat.le_of_ble_eq_true rfl) hRm (by decide) ?_
  refine x_aload_n hC 0 rfl dX0_init_4 ?_
  refine x_bipush hC (v := (nI 8)) dX0_init_5 rfl ?_
  refine x_put hC fp_X0_9 dX0_init_7 0 rfl rfl rfl (Nat.le_of_ble_eq_true rfl) _ rfl ?_
  change XW F 0 0 [(h, .inr (0, [.int (nI 8), .int 0, .null]))] [(0, .ref h)] 10 []
  refine x_aload_n hC 0 rfl dX0_init_10 ?_
  refine x_iconst hC (v := (nI 0)) dX0_init_11 rfl ?_
  refine x_put hC fp_X0_15 dX0_init_12 0 rfl rfl rfl (Nat.le_of_ble_eq_true rfl) _ rfl ?_
  change XW F 0 0 [(h, .inr (0, [.int (nI 8), .int (nI 0), .null]))] [(0, .ref h)] 15 []
  refine x_aload_n hC 0 rfl dX0_init_15 ?_
  refine x_iconst hC (v := (nI 3)) dX0_init_16 rfl ?_
  refine x_bipush hC (v := (nI 14)) dX0_init_17 rfl ?_
  refine x_mna hC cl_X0_18 ar_i hNX.1 0 3 rfl rfl dX0_init_19 (by rw [hRm]; exact Nat.le_of_ble_eq_true rfl) (by rw [hRm]; exact Nat.le_of_ble_eq_true rfl) (fun q1 q2 q3 q4 => ?_)
  change XW F 4 45 [(h, .inr (0, [.int (nI 8), .int (nI 0), .null])), (q1, .inl (c 3, 3, .inr (.inr (.inr (.inr (fun j => if j = 0 then some q2 else if j = 1 then some q3 else some q4)))))), (q2, .inl (c 0, 14, .inl (fun _ => 0))), (q3, .inl (c 0, 14, .inl (fun _ => 0))), (q4, .inl (c 0, 14, .inl (fun _ => 0)))] [(0, .ref h)] 23 [.ref q1, .ref h]
  refine x_putF hC hR.2.1 fq_X0_20 dX0_init_23 0 rfl rfl rfl (Nat.le_of_ble_eq_true rfl) _ rfl ?_
  change XW F 4 45 [(h, .inr (0, [.int (nI 8), .int (nI 0), .ref q1])), (q1, .inl (c 3, 3, .inr (.inr (.inr (.inr (fun j => if j = 0 then some q2 else if j = 1 then some q3 else some q4)))))), (q2, .inl (c 0, 14, .inl (fun _ => 0))), (q3, .inl (c 0, 14, .inl (fun _ => 0))), (q4, .inl (c 0, 14, .inl (fun _ => 0)))] [(0, .ref h)] 26 []
  refine x_iconst hC (v := (nI 0)) dX0_init_26 rfl ?_
  refine x_istore_n hC [(1, .int (nI 0)), (0, .ref h)] rfl (lt_n hn rfl) dX0_init_27 ?_
  have loop : ∀ (d i : Nat) (f8 f10 : Nat → Int32), i + d = 14 → (∀ j, j < i → f8 j = nI 1 ∧ f10 j = nI 4) → XW F 4 45 [(h, .inr (0, [.int (nI 8), .int (nI 0), .ref q1])), (q1, .inl (c 3, 3, .inr (.inr (.inr (.inr (fun j => if j = 0 then some q2 else if j = 1 then some q3 else some q4)))))), (q2, .inl (c 0, 14, .inl f8)), (q3, .inl (c 0, 14, .inl (fun _ => 0))), (q4, .inl (c 0, 14, .inl f10))] [(1, .int (nI i)), (0, .ref h)] 28 [] := by
    intro d
    induction d with
    | zero =>
      intro i f8 f10 hi hf
      refine x_iload_n hC 0 rfl dX0_init_28 ?_
      refine x_bipush hC (v := nI 14) dX0_init_29 rfl ?_
      refine x_icmp_geN hC 58 dX0_init_31 rfl (by omega) (by decide) (fun h31 => ?_) (fun h31 => ?_)
      · exact x_vretN hC hR dX0_init_58 ⟨q1, q2, q3, q4, f8, f10, fun j hj => hf j (by omega), rfl⟩
      · omega
    | succ d ih =>
      intro i f8 f10 hi hf
      refine x_iload_n hC 0 rfl dX0_init_28 ?_
      refine x_bipush hC (v := nI 14) dX0_init_29 rfl ?_
      refine x_icmp_geN hC 58 dX0_init_31 rfl (by omega) (by decide) (fun h31 => ?_) (fun h31 => ?_)
      · omega
      · skip
        change XW F 4 45 [(h, .inr (0, [.int (nI 8), .int (nI 0), .ref q1])), (q1, .inl (c 3, 3, .inr (.inr (.inr (.inr (fun j => if j = 0 then some q2 else if j = 1 then some q3 else some q4)))))), (q2, .inl (c 0, 14, .inl f8)), (q3, .inl (c 0, 14, .inl (fun _ => 0))), (q4, .inl (c 0, 14, .inl f10))] [(1, .int (nI i)), (0, .ref h)] 34 []
        refine x_aload_n hC 1 rfl dX0_init_34 ?_
        refine x_get hC fl_X0_20 dX0_init_35 0 rfl rfl ?_
        refine x_iconst hC (v := (nI 0)) dX0_init_38 rfl ?_
        refine x_aald hC 1 3 (N := 3) rfl rfl (j := 0) (y := q2) (Nat.le_of_ble_eq_true rfl) (by decide) rfl dX0_init_39 ?_
        refine x_iload_n hC 0 rfl dX0_init_40 ?_
        refine x_iconst hC (v := (nI 1)) dX0_init_41 rfl ?_
        refine x_iast hC 2 0 rfl rfl (j := i) (by omega) (by decide) _ rfl dX0_init_42 ?_
        change XW F 4 45 [(h, .inr (0, [.int (nI 8), .int (nI 0), .ref q1])), (q1, .inl (c 3, 3, .inr (.inr (.inr (.inr (fun j => if j = 0 then some q2 else if j = 1 then some q3 else some q4)))))), (q2, .inl (c 0, 14, .inl (upd f8 i (nI 1)))), (q3, .inl (c 0, 14, .inl (fun _ => 0))), (q4, .inl (c 0, 14, .inl f10))] [(1, .int (nI i)), (0, .ref h)] 43 []
        refine x_aload_n hC 1 rfl dX0_init_43 ?_
        refine x_get hC fl_X0_20 dX0_init_44 0 rfl rfl ?_
        refine x_iconst hC (v := (nI 2)) dX0_init_47 rfl ?_
        refine x_aald hC 1 3 (N := 3) rfl rfl (j := 2) (y := q4) (Nat.le_of_ble_eq_true rfl) (by decide) rfl dX0_init_48 ?_
        refine x_iload_n hC 0 rfl dX0_init_49 ?_
        refine x_iconst hC (v := (nI 4)) dX0_init_50 rfl ?_
        refine x_iast hC 4 0 rfl rfl (j := i) (by omega) (by decide) _ rfl dX0_init_51 ?_
        change XW F 4 45 [(h, .inr (0, [.int (nI 8), .int (nI 0), .ref q1])), (q1, .inl (c 3, 3, .inr (.inr (.inr (.inr (fun j => if j = 0 then some q2 else if j = 1 then some q3 else some q4)))))), (q2, .inl (c 0, 14, .inl (upd f8 i (nI 1)))), (q3, .inl (c 0, 14, .inl (fun _ => 0))), (q4, .inl (c 0, 14, .inl (upd f10 i (nI 4))))] [(1, .int (nI i)), (0, .ref h)] 52 []
        refine x_iinc hC (z := 1) (v := nI (i + 1)) 0 rfl (nI_1 i) [(1, .int (nI (i + 1))), (0, .ref h)] rfl (lt_n hn rfl) dX0_init_52 ?_
        refine x_goto hC 28 dX0_init_55 rfl ?_
        exact ih (i + 1) _ _ (by omega) (fun j hj => up2 hf hj)
  exact loop 14 0 _ _ rfl (fun j hj => absurd hj (Nat.not_lt_zero j))
def mu0 (f8 f10 : Nat → Int32) : Me := fun c => match c with
  | 0 => fun j => match j with
    | 0 => nI 8
    | _ => nI 0
  | 8 => f8
  | 10 => f10
  | _ => fun _ => 0
theorem xi0 {f8 f10 : Nat → Int32} (hf : ∀ j, j < 14 → f8 j = nI 1 ∧ f10 j = nI 4) : XI (mu0 f8 f10) S0 := ⟨rfl, rfl, rfl, rfl, rfl, fun _ _ => rfl, fun j hj => (hf j hj).1, fun _ _ => rfl, fun j hj => (hf j hj).2, fun _ _ => rfl, fun j hj => absurd hj (Nat.not_lt_zero j), fun _ _ => ⟨rfl, fun h => absurd rfl h, rfl⟩, ⟨false, rfl, fun h => by cases h⟩⟩
set_option maxHeartbeats 4000000 in
set_option maxRecDepth 100000 in
theorem c_X5_init {l : Launch} {D : va_G} {c : Nat → ClassId} {h : Nat} : KN l D (tyE c) yX5_init cX5_init 1 (rmN 2 24 289) [.ref h] [(h, .inr (5, [.null, .null, .null, .null, .null, .null]))] 24 289 (fun u => ∃ (a : Nat → Nat) (μ : Me), u = xw c a μ ∧ a 0 = h ∧ XI μ S0) := by
  refine x_enterN (by decide) rfl (Nat.le_of_ble_eq_true rfl) (fun F hl hD hn hRm hC hR hNX => ?_)
  subst hl hD
  change FC F cX5_init RX5 (tyE c) at hC
  change XW F 0 0 [(h, .inr (5, [.null, .null, .null, .null, .null, .null]))] [(0, .ref h)] 0 []
  refine x_aload_n hC 0 rfl dX5_init_0 ?_
  refine x_objI hC oi_X5_1 oi_i oi_c dX5_init_1 (Nat.le_of_ble_eq_true rfl) hRm (by decide) ?_
  refine x_aload_n hC 0 rfl dX5_init_4 ?_
  refine x_newo hC nw_X5_7 (fs := [.int 0, .int 0, .null]) dfX0 dX5_init_5 (by rw [hRm]; exact Nat.le_of_ble_eq_true rfl) (by rw [hRm]; exact Nat.le_of_ble_eq_true rfl) (fun q1 => ?_)
  change XW F 1 3 [(h, .inr (5, [.null, .null, .null, .null, .null, .null])), (q1, .inr (0, [.int 0, .int 0, .null]))] [(0, .ref h)] 8 [.ref q1, .ref h]
  refine x_dup hC rfl dX5_init_8 ?_
  change XW F 1 3 ([(h, .inr (5, [.null, .null, .null, .null, .null, .null]))] ++ ([(q1, .inr (0, [.int 0, .int 0, .null]))] ++ [])) _ _ _
  refine x_callI hC ci_X5_9 ((c_X0_init (l := fx_l F) (D := fx_D F) (c := c) (h := q1) ).fr [(h, .inr (5, [.null, .null, .null, .null, .null, .null]))] []) hNX dX5_init_9 [.ref q1, .ref h] rfl (Nat.le_of_ble_eq_true rfl) rfl (rm_N hRm (by decide) (by decide) (Nat.le_of_ble_eq_true rfl) (Nat.le_of_ble_eq_true rfl)) (fun u hu => ?_)
  obtain ⟨_, ⟨q2, q3, q4, q5, f8, f10, hf, rfl⟩, rfl⟩ := hu
  change XW F 5 48 [(h, .inr (5, [.null, .null, .null, .null, .null, .null])), (q1, .inr (0, [.int (nI 8), .int (nI 0), .ref q2])), (q2, .inl (c 3, 3, .inr (.inr (.inr (.inr (fun j => if j = 0 then some q3 else if j = 1 then some q4 else some q5)))))), (q3, .inl (c 0, 14, .inl f8)), (q4, .inl (c 0, 14, .inl (fun _ => 0))), (q5, .inl (c 0, 14, .inl f10))] [(0, .ref h)] 12 [.ref q1, .ref h]
  refine x_putF hC hR.2.1 fq_X5_10 dX5_init_12 0 rfl rfl rfl (Nat.le_of_ble_eq_true rfl) _ rfl ?_
  change XW F 5 48 [(h, .inr (5, [.ref q1, .null, .null, .null, .null, .null])), (q1, .inr (0, [.int (nI 8), .int (nI 0), .ref q2])), (q2, .inl (c 3, 3, .inr (.inr (.inr (.inr (fun j => if j = 0 then some q3 else if j = 1 then some q4 else some q5)))))), (q3, .inl (c 0, 14, .inl f8)), (q4, .inl (c 0, 14, .inl (fun _ => 0))), (q5, .inl (c 0, 14, .inl f10))] [(0, .ref h)] 15 []
  refine x_aload_n hC 0 rfl dX5_init_15 ?_
  refine x_newo hC nw_X5_16 (fs := [.int 0, .null]) dfX2 dX5_init_16 (by rw [hRm]; exact Nat.le_of_ble_eq_true rfl) (by rw [hRm]; exact Nat.le_of_ble_eq_true rfl) (fun q6 => ?_)
  change XW F 6 50 [(h, .inr (5, [.ref q1, .null, .null, .null, .null, .null])), (q1, .inr (0, [.int (nI 8), .int (nI 0), .ref q2])), (q2, .inl (c 3, 3, .inr (.inr (.inr (.inr (fun j => if j = 0 then some q3 else if j = 1 then some q4 else some q5)))))), (q3, .inl (c 0, 14, .inl f8)), (q4, .inl (c 0, 14, .inl (fun _ => 0))), (q5, .inl (c 0, 14, .inl f10)), (q6, .inr (2, [.int 0, .null]))] [(0, .ref h)] 19 [.ref q6, .ref h]
  refine x_dup hC rfl dX5_init_19 ?_
  change XW F 6 50 ([(h, .inr (5, [.ref q1, .null, .null, .null, .null, .null])), (q1, .inr (0, [.int (nI 8), .int (nI 0), .ref q2])), (q2, .inl (c 3, 3, .inr (.inr (.inr (.inr (fun j => if j = 0 then some q3 else if j = 1 then some q4 else some q5)))))), (q3, .inl (c 0, 14, .inl f8)), (q4, .inl (c 0, 14, .inl (fun _ => 0))), (q5, .inl (c 0, 14, .inl f10))] ++ ([(q6, .inr (2, [.int 0, .null]))] ++ [])) _ _ _
  refine x_callIN hC ci_X5_18 hNX.2.1 ((c_X2_init (l := fx_l F) (D := fx_D F) (c := c) (h := q6) ).fr [(h, .inr (5, [.ref q1, .null, .null, .null, .null, .null])), (q1, .inr (0, [.int (nI 8), .int (nI 0), .ref q2])), (q2, .inl (c 3, 3, .inr (.inr (.inr (.inr (fun j => if j = 0 then some q3 else if j = 1 then some q4 else some q5)))))), (q3, .inl (c 0, 14, .inl f8)), (q4, .inl (c 0, 14, .inl (fun _ => 0))), (q5, .inl (c 0, 14, .inl f10))] []) hNX dX5_init_20 [.ref q6, .ref h] rfl (Nat.le_of_ble_eq_true rfl) rfl (rm_N hRm (by decide) (by decide) (Nat.le_of_ble_eq_true rfl) (Nat.le_of_ble_eq_true rfl)) (fun u hu => ?_)
  obtain ⟨_, ⟨q7, rfl⟩, rfl⟩ := hu
  change XW F 7 114 [(h, .inr (5, [.ref q1, .null, .null, .null, .null, .null])), (q1, .inr (0, [.int (nI 8), .int (nI 0), .ref q2])), (q2, .inl (c 3, 3, .inr (.inr (.inr (.inr (fun j => if j = 0 then some q3 else if j = 1 then some q4 else some q5)))))), (q3, .inl (c 0, 14, .inl f8)), (q4, .inl (c 0, 14, .inl (fun _ => 0))), (q5, .inl (c 0, 14, .inl f10)), (q6, .inr (2, [.int (nI 0), .ref q7])), (q7, .inl (c 0, 64, .inl (fun _ => 0)))] [(0, .ref h)] 23 [.ref q6, .ref h]
  refine x_putF hC hR.2.1 fq_X5_19 dX5_init_23 0 rfl rfl rfl (Nat.le_of_ble_eq_true rfl) _ rfl ?_
  change XW F 7 114 [(h, .inr (5, [.ref q1, .ref q6, .null, .null, .null, .null])), (q1, .inr (0, [.int (nI 8), .int (nI 0), .ref q2])), (q2, .inl (c 3, 3, .inr (.inr (.inr (.inr (fun j => if j = 0 then some q3 else if j = 1 then some q4 else some q5)))))), (q3, .inl (c 0, 14, .inl f8)), (q4, .inl (c 0, 14, .inl (fun _ => 0))), (q5, .inl (c 0, 14, .inl f10)), (q6, .inr (2, [.int (nI 0), .ref q7])), (q7, .inl (c 0, 64, .inl (fun _ => 0)))] [(0, .ref h)] 26 []
  refine x_aload_n hC 0 rfl dX5_init_26 ?_
  refine x_newo hC nw_X5_23 (fs := [.int 0, .null, .null, .null, .null]) dfX1 dX5_init_27 (by rw [hRm]; exact Nat.le_of_ble_eq_true rfl) (by rw [hRm]; exact Nat.le_of_ble_eq_true rfl) (fun q8 => ?_)
  change XW F 8 119 [(h, .inr (5, [.ref q1, .ref q6, .null, .null, .null, .null])), (q1, .inr (0, [.int (nI 8), .int (nI 0), .ref q2])), (q2, .inl (c 3, 3, .inr (.inr (.inr (.inr (fun j => if j = 0 then some q3 else if j = 1 then some q4 else some q5)))))), (q3, .inl (c 0, 14, .inl f8)), (q4, .inl (c 0, 14, .inl (fun _ => 0))), (q5, .inl (c 0, 14, .inl f10)), (q6, .inr (2, [.int (nI 0), .ref q7])), (q7, .inl (c 0, 64, .inl (fun _ => 0))), (q8, .inr (1, [.int 0, .null, .null, .null, .null]))] [(0, .ref h)] 30 [.ref q8, .ref h]
  refine x_dup hC rfl dX5_init_30 ?_
  change XW F 8 119 ([(h, .inr (5, [.ref q1, .ref q6, .null, .null, .null, .null])), (q1, .inr (0, [.int (nI 8), .int (nI 0), .ref q2])), (q2, .inl (c 3, 3, .inr (.inr (.inr (.inr (fun j => if j = 0 then some q3 else if j = 1 then some q4 else some q5)))))), (q3, .inl (c 0, 14, .inl f8)), (q4, .inl (c 0, 14, .inl (fun _ => 0))), (q5, .inl (c 0, 14, .inl f10)), (q6, .inr (2, [.int (nI 0), .ref q7])), (q7, .inl (c 0, 64, .inl (fun _ => 0)))] ++ ([(q8, .inr (1, [.int 0, .null, .null, .null, .null]))] ++ [])) _ _ _
  refine x_callIN hC ci_X5_25 hNX.2.2.1 ((c_X1_init (l := fx_l F) (D := fx_D F) (c := c) (h := q8) ).fr [(h, .inr (5, [.ref q1, .ref q6, .null, .null, .null, .null])), (q1, .inr (0, [.int (nI 8), .int (nI 0), .ref q2])), (q2, .inl (c 3, 3, .inr (.inr (.inr (.inr (fun j => if j = 0 then some q3 else if j = 1 then some q4 else some q5)))))), (q3, .inl (c 0, 14, .inl f8)), (q4, .inl (c 0, 14, .inl (fun _ => 0))), (q5, .inl (c 0, 14, .inl f10)), (q6, .inr (2, [.int (nI 0), .ref q7])), (q7, .inl (c 0, 64, .inl (fun _ => 0)))] []) hNX dX5_init_31 [.ref q8, .ref h] rfl (Nat.le_of_ble_eq_true rfl) rfl (rm_N hRm (by decide) (by decide) (Nat.le_of_ble_eq_true rfl) (Nat.le_of_ble_eq_true rfl)) (fun u hu => ?_)
  obtain ⟨_, ⟨q9, q10, q11, q12, rfl⟩, rfl⟩ := hu
  change XW F 12 151 [(h, .inr (5, [.ref q1, .ref q6, .null, .null, .null, .null])), (q1, .inr (0, [.int (nI 8), .int (nI 0), .ref q2])), (q2, .inl (c 3, 3, .inr (.inr (.inr (.inr (fun j => if j = 0 then some q3 else if j = 1 then some q4 else some q5)))))), (q3, .inl (c 0, 14, .inl f8)), (q4, .inl (c 0, 14, .inl (fun _ => 0))), (q5, .inl (c 0, 14, .inl f10)), (q6, .inr (2, [.int (nI 0), .ref q7])), (q7, .inl (c 0, 64, .inl (fun _ => 0))), (q8, .inr (1, [.int (nI 0), .ref q9, .ref q10, .ref q11, .ref q12])), (q9, .inl (c 0, 8, .inl (fun _ => 0))), (q10, .inl (c 1, 8, .inl (fun _ => 0))), (q11, .inl (c 0, 8, .inl (fun _ => 0))), (q12, .inl (c 0, 8, .inl (fun _ => 0)))] [(0, .ref h)] 34 [.ref q8, .ref h]
  refine x_putF hC hR.2.1 fq_X5_26 dX5_init_34 0 rfl rfl rfl (Nat.le_of_ble_eq_true rfl) _ rfl ?_
  change XW F 12 151 [(h, .inr (5, [.ref q1, .ref q6, .ref q8, .null, .null, .null])), (q1, .inr (0, [.int (nI 8), .int (nI 0), .ref q2])), (q2, .inl (c 3, 3, .inr (.inr (.inr (.inr (fun j => if j = 0 then some q3 else if j = 1 then some q4 else some q5)))))), (q3, .inl (c 0, 14, .inl f8)), (q4, .inl (c 0, 14, .inl (fun _ => 0))), (q5, .inl (c 0, 14, .inl f10)), (q6, .inr (2, [.int (nI 0), .ref q7])), (q7, .inl (c 0, 64, .inl (fun _ => 0))), (q8, .inr (1, [.int (nI 0), .ref q9, .ref q10, .ref q11, .ref q12])), (q9, .inl (c 0, 8, .inl (fun _ => 0))), (q10, .inl (c 1, 8, .inl (fun _ => 0))), (q11, .inl (c 0, 8, .inl (fun _ => 0))), (q12, .inl (c 0, 8, .inl (fun _ => 0)))] [(0, .ref h)] 37 []
  refine x_aload_n hC 0 rfl dX5_init_37 ?_
  refine x_newo hC nw_X5_30 (fs := [.int 0, .null, .null, .null, .int 0, .int 0, .null, .null, .null, .null]) dfX4 dX5_init_38 (by rw [hRm]; exact Nat.le_of_ble_eq_true rfl) (by rw [hRm]; exact Nat.le_of_ble_eq_true rfl) (fun q13 => ?_)
  change XW F 13 161 [(h, .inr (5, [.ref q1, .ref q6, .ref q8, .null, .null, .null])), (q1, .inr (0, [.int (nI 8), .int (nI 0), .ref q2])), (q2, .inl (c 3, 3, .inr (.inr (.inr (.inr (fun j => if j = 0 then some q3 else if j = 1 then some q4 else some q5)))))), (q3, .inl (c 0, 14, .inl f8)), (q4, .inl (c 0, 14, .inl (fun _ => 0))), (q5, .inl (c 0, 14, .inl f10)), (q6, .inr (2, [.int (nI 0), .ref q7])), (q7, .inl (c 0, 64, .inl (fun _ => 0))), (q8, .inr (1, [.int (nI 0), .ref q9, .ref q10, .ref q11, .ref q12])), (q9, .inl (c 0, 8, .inl (fun _ => 0))), (q10, .inl (c 1, 8, .inl (fun _ => 0))), (q11, .inl (c 0, 8, .inl (fun _ => 0))), (q12, .inl (c 0, 8, .inl (fun _ => 0))), (q13, .inr (4, [.int 0, .null, .null, .null, .int 0, .int 0, .null, .null, .null, .null]))] [(0, .ref h)] 41 [.ref q13, .ref h]
  refine x_dup hC rfl dX5_init_41 ?_
  change XW F 13 161 ([(h, .inr (5, [.ref q1, .ref q6, .ref q8, .null, .null, .null])), (q1, .inr (0, [.int (nI 8), .int (nI 0), .ref q2])), (q2, .inl (c 3, 3, .inr (.inr (.inr (.inr (fun j => if j = 0 then some q3 else if j = 1 then some q4 else some q5)))))), (q3, .inl (c 0, 14, .inl f8)), (q4, .inl (c 0, 14, .inl (fun _ => 0))), (q5, .inl (c 0, 14, .inl f10)), (q6, .inr (2, [.int (nI 0), .ref q7])), (q7, .inl (c 0, 64, .inl (fun _ => 0))), (q8, .inr (1, [.int (nI 0), .ref q9, .ref q10, .ref q11, .ref q12])), (q9, .inl (c 0, 8, .inl (fun _ => 0))), (q10, .inl (c 1, 8, .inl (fun _ => 0))), (q11, .inl (c 0, 8, .inl (fun _ => 0))), (q12, .inl (c 0, 8, .inl (fun _ => 0)))] ++ ([(q13, .inr (4, [.int 0, .null, .null, .null, .int 0, .int 0, .null, .null, .null, .null]))] ++ [])) _ _ _
  refine x_callIN hC ci_X5_32 hNX.2.2.2 ((c_X4_init (l := fx_l F) (D := fx_D F) (c := c) (h := q13) ).fr [(h, .inr (5, [.ref q1, .ref q6, .ref q8, .null, .null, .null])), (q1, .inr (0, [.int (nI 8), .int (nI 0), .ref q2])), (q2, .inl (c 3, 3, .inr (.inr (.inr (.inr (fun j => if j = 0 then some q3 else if j = 1 then some q4 else some q5)))))), (q3, .inl (c 0, 14, .inl f8)), (q4, .inl (c 0, 14, .inl (fun _ => 0))), (q5, .inl (c 0, 14, .inl f10)), (q6, .inr (2, [.int (nI 0), .ref q7])), (q7, .inl (c 0, 64, .inl (fun _ => 0))), (q8, .inr (1, [.int (nI 0), .ref q9, .ref q10, .ref q11, .ref q12])), (q9, .inl (c 0, 8, .inl (fun _ => 0))), (q10, .inl (c 1, 8, .inl (fun _ => 0))), (q11, .inl (c 0, 8, .inl (fun _ => 0))), (q12, .inl (c 0, 8, .inl (fun _ => 0)))] []) hNX dX5_init_42 [.ref q13, .ref h] rfl (Nat.le_of_ble_eq_true rfl) rfl (rm_N hRm (by decide) (by decide) (Nat.le_of_ble_eq_true rfl) (Nat.le_of_ble_eq_true rfl)) (fun u hu => ?_)
  obtain ⟨_, ⟨q14, q15, q16, q17, q18, q19, q20, rfl⟩, rfl⟩ := hu
  change XW F 20 250 [(h, .inr (5, [.ref q1, .ref q6, .ref q8, .null, .null, .null])), (q1, .inr (0, [.int (nI 8), .int (nI 0), .ref q2])), (q2, .inl (c 3, 3, .inr (.inr (.inr (.inr (fun j => if j = 0 then some q3 else if j = 1 then some q4 else some q5)))))), (q3, .inl (c 0, 14, .inl f8)), (q4, .inl (c 0, 14, .inl (fun _ => 0))), (q5, .inl (c 0, 14, .inl f10)), (q6, .inr (2, [.int (nI 0), .ref q7])), (q7, .inl (c 0, 64, .inl (fun _ => 0))), (q8, .inr (1, [.int (nI 0), .ref q9, .ref q10, .ref q11, .ref q12])), (q9, .inl (c 0, 8, .inl (fun _ => 0))), (q10, .inl (c 1, 8, .inl (fun _ => 0))), (q11, .inl (c 0, 8, .inl (fun _ => 0))), (q12, .inl (c 0, 8, .inl (fun _ => 0))), (q13, .inr (4, [.int (nI 0), .ref q14, .ref q15, .ref q16, .int (nI 0), .int (nI 0), .ref q17, .ref q18, .ref q19, .ref q20])), (q14, .inl (c 1, 16, .inl (fun _ => 0))), (q15, .inl (c 0, 16, .inl (fun _ => 0))), (q16, .inl (c 1, 16, .inl (fun _ => 0))), (q17, .inl (c 0, 5, .inl (fun _ => 0))), (q18, .inl (c 0, 16, .inl (fun _ => 0))), (q19, .inl (c 0, 4, .inl (fun _ => 0))), (q20, .inl (c 0, 16, .inl (fun _ => 0)))] [(0, .ref h)] 45 [.ref q13, .ref h]
  refine x_putF hC hR.2.1 fq_X5_33 dX5_init_45 0 rfl rfl rfl (Nat.le_of_ble_eq_true rfl) _ rfl ?_
  change XW F 20 250 [(h, .inr (5, [.ref q1, .ref q6, .ref q8, .ref q13, .null, .null])), (q1, .inr (0, [.int (nI 8), .int (nI 0), .ref q2])), (q2, .inl (c 3, 3, .inr (.inr (.inr (.inr (fun j => if j = 0 then some q3 else if j = 1 then some q4 else some q5)))))), (q3, .inl (c 0, 14, .inl f8)), (q4, .inl (c 0, 14, .inl (fun _ => 0))), (q5, .inl (c 0, 14, .inl f10)), (q6, .inr (2, [.int (nI 0), .ref q7])), (q7, .inl (c 0, 64, .inl (fun _ => 0))), (q8, .inr (1, [.int (nI 0), .ref q9, .ref q10, .ref q11, .ref q12])), (q9, .inl (c 0, 8, .inl (fun _ => 0))), (q10, .inl (c 1, 8, .inl (fun _ => 0))), (q11, .inl (c 0, 8, .inl (fun _ => 0))), (q12, .inl (c 0, 8, .inl (fun _ => 0))), (q13, .inr (4, [.int (nI 0), .ref q14, .ref q15, .ref q16, .int (nI 0), .int (nI 0), .ref q17, .ref q18, .ref q19, .ref q20])), (q14, .inl (c 1, 16, .inl (fun _ => 0))), (q15, .inl (c 0, 16, .inl (fun _ => 0))), (q16, .inl (c 1, 16, .inl (fun _ => 0))), (q17, .inl (c 0, 5, .inl (fun _ => 0))), (q18, .inl (c 0, 16, .inl (fun _ => 0))), (q19, .inl (c 0, 4, .inl (fun _ => 0))), (q20, .inl (c 0, 16, .inl (fun _ => 0)))] [(0, .ref h)] 48 []
  refine x_aload_n hC 0 rfl dX5_init_48 ?_
  refine x_newo hC nw_X5_37 (fs := [.null, .null, .null, .null]) dfX3 dX5_init_49 (by rw [hRm]; exact Nat.le_of_ble_eq_true rfl) (by rw [hRm]; exact Nat.le_of_ble_eq_true rfl) (fun q21 => ?_)
  change XW F 21 254 [(h, .inr (5, [.ref q1, .ref q6, .ref q8, .ref q13, .null, .null])), (q1, .inr (0, [.int (nI 8), .int (nI 0), .ref q2])), (q2, .inl (c 3, 3, .inr (.inr (.inr (.inr (fun j => if j = 0 then some q3 else if j = 1 then some q4 else some q5)))))), (q3, .inl (c 0, 14, .inl f8)), (q4, .inl (c 0, 14, .inl (fun _ => 0))), (q5, .inl (c 0, 14, .inl f10)), (q6, .inr (2, [.int (nI 0), .ref q7])), (q7, .inl (c 0, 64, .inl (fun _ => 0))), (q8, .inr (1, [.int (nI 0), .ref q9, .ref q10, .ref q11, .ref q12])), (q9, .inl (c 0, 8, .inl (fun _ => 0))), (q10, .inl (c 1, 8, .inl (fun _ => 0))), (q11, .inl (c 0, 8, .inl (fun _ => 0))), (q12, .inl (c 0, 8, .inl (fun _ => 0))), (q13, .inr (4, [.int (nI 0), .ref q14, .ref q15, .ref q16, .int (nI 0), .int (nI 0), .ref q17, .ref q18, .ref q19, .ref q20])), (q14, .inl (c 1, 16, .inl (fun _ => 0))), (q15, .inl (c 0, 16, .inl (fun _ => 0))), (q16, .inl (c 1, 16, .inl (fun _ => 0))), (q17, .inl (c 0, 5, .inl (fun _ => 0))), (q18, .inl (c 0, 16, .inl (fun _ => 0))), (q19, .inl (c 0, 4, .inl (fun _ => 0))), (q20, .inl (c 0, 16, .inl (fun _ => 0))), (q21, .inr (3, [.null, .null, .null, .null]))] [(0, .ref h)] 52 [.ref q21, .ref h]
  refine x_dup hC rfl dX5_init_52 ?_
  refine x_aload_n hC 0 rfl dX5_init_53 ?_
  refine x_get hC fl_X5_10 dX5_init_54 0 rfl rfl ?_
  refine x_aload_n hC 0 rfl dX5_init_57 ?_
  refine x_get hC fl_X5_19 dX5_init_58 0 rfl rfl ?_
  change XW F 21 254 ([(h, .inr (5, [.ref q1, .ref q6, .ref q8, .ref q13, .null, .null])), (q1, .inr (0, [.int (nI 8), .int (nI 0), .ref q2])), (q2, .inl (c 3, 3, .inr (.inr (.inr (.inr (fun j => if j = 0 then some q3 else if j = 1 then some q4 else some q5)))))), (q3, .inl (c 0, 14, .inl f8)), (q4, .inl (c 0, 14, .inl (fun _ => 0))), (q5, .inl (c 0, 14, .inl f10)), (q6, .inr (2, [.int (nI 0), .ref q7])), (q7, .inl (c 0, 64, .inl (fun _ => 0))), (q8, .inr (1, [.int (nI 0), .ref q9, .ref q10, .ref q11, .ref q12])), (q9, .inl (c 0, 8, .inl (fun _ => 0))), (q10, .inl (c 1, 8, .inl (fun _ => 0))), (q11, .inl (c 0, 8, .inl (fun _ => 0))), (q12, .inl (c 0, 8, .inl (fun _ => 0))), (q13, .inr (4, [.int (nI 0), .ref q14, .ref q15, .ref q16, .int (nI 0), .int (nI 0), .ref q17, .ref q18, .ref q19, .ref q20])), (q14, .inl (c 1, 16, .inl (fun _ => 0))), (q15, .inl (c 0, 16, .inl (fun _ => 0))), (q16, .inl (c 1, 16, .inl (fun _ => 0))), (q17, .inl (c 0, 5, .inl (fun _ => 0))), (q18, .inl (c 0, 16, .inl (fun _ => 0))), (q19, .inl (c 0, 4, .inl (fun _ => 0))), (q20, .inl (c 0, 16, .inl (fun _ => 0)))] ++ ([(q21, .inr (3, [.null, .null, .null, .null]))] ++ [])) _ _ _
  refine x_callI hC ci_X5_39 ((c_X3_init (l := fx_l F) (D := fx_D F) (c := c) (h := q21) (e1 := q1) (e2 := q6)).fr [(h, .inr (5, [.ref q1, .ref q6, .ref q8, .ref q13, .null, .null])), (q1, .inr (0, [.int (nI 8), .int (nI 0), .ref q2])), (q2, .inl (c 3, 3, .inr (.inr (.inr (.inr (fun j => if j = 0 then some q3 else if j = 1 then some q4 else some q5)))))), (q3, .inl (c 0, 14, .inl f8)), (q4, .inl (c 0, 14, .inl (fun _ => 0))), (q5, .inl (c 0, 14, .inl f10)), (q6, .inr (2, [.int (nI 0), .ref q7])), (q7, .inl (c 0, 64, .inl (fun _ => 0))), (q8, .inr (1, [.int (nI 0), .ref q9, .ref q10, .ref q11, .ref q12])), (q9, .inl (c 0, 8, .inl (fun _ => 0))), (q10, .inl (c 1, 8, .inl (fun _ => 0))), (q11, .inl (c 0, 8, .inl (fun _ => 0))), (q12, .inl (c 0, 8, .inl (fun _ => 0))), (q13, .inr (4, [.int (nI 0), .ref q14, .ref q15, .ref q16, .int (nI 0), .int (nI 0), .ref q17, .ref q18, .ref q19, .ref q20])), (q14, .inl (c 1, 16, .inl (fun _ => 0))), (q15, .inl (c 0, 16, .inl (fun _ => 0))), (q16, .inl (c 1, 16, .inl (fun _ => 0))), (q17, .inl (c 0, 5, .inl (fun _ => 0))), (q18, .inl (c 0, 16, .inl (fun _ => 0))), (q19, .inl (c 0, 4, .inl (fun _ => 0))), (q20, .inl (c 0, 16, .inl (fun _ => 0)))] []) hNX dX5_init_61 [.ref q21, .ref h] rfl (Nat.le_of_ble_eq_true rfl) rfl (rm_N hRm (by decide) (by decide) (Nat.le_of_ble_eq_true rfl) (Nat.le_of_ble_eq_true rfl)) (fun u hu => ?_)
  obtain ⟨_, ⟨q22, q23, rfl⟩, rfl⟩ := hu
  change XW F 23 282 [(h, .inr (5, [.ref q1, .ref q6, .ref q8, .ref q13, .null, .null])), (q1, .inr (0, [.int (nI 8), .int (nI 0), .ref q2])), (q2, .inl (c 3, 3, .inr (.inr (.inr (.inr (fun j => if j = 0 then some q3 else if j = 1 then some q4 else some q5)))))), (q3, .inl (c 0, 14, .inl f8)), (q4, .inl (c 0, 14, .inl (fun _ => 0))), (q5, .inl (c 0, 14, .inl f10)), (q6, .inr (2, [.int (nI 0), .ref q7])), (q7, .inl (c 0, 64, .inl (fun _ => 0))), (q8, .inr (1, [.int (nI 0), .ref q9, .ref q10, .ref q11, .ref q12])), (q9, .inl (c 0, 8, .inl (fun _ => 0))), (q10, .inl (c 1, 8, .inl (fun _ => 0))), (q11, .inl (c 0, 8, .inl (fun _ => 0))), (q12, .inl (c 0, 8, .inl (fun _ => 0))), (q13, .inr (4, [.int (nI 0), .ref q14, .ref q15, .ref q16, .int (nI 0), .int (nI 0), .ref q17, .ref q18, .ref q19, .ref q20])), (q14, .inl (c 1, 16, .inl (fun _ => 0))), (q15, .inl (c 0, 16, .inl (fun _ => 0))), (q16, .inl (c 1, 16, .inl (fun _ => 0))), (q17, .inl (c 0, 5, .inl (fun _ => 0))), (q18, .inl (c 0, 16, .inl (fun _ => 0))), (q19, .inl (c 0, 4, .inl (fun _ => 0))), (q20, .inl (c 0, 16, .inl (fun _ => 0))), (q21, .inr (3, [.ref q1, .ref q6, .ref q22, .ref q23])), (q22, .inl (c 0, 14, .inl (fun _ => 0))), (q23, .inl (c 0, 14, .inl (fun _ => 0)))] [(0, .ref h)] 64 [.ref q21, .ref h]
  refine x_putF hC hR.2.1 fq_X5_42 dX5_init_64 0 rfl rfl rfl (Nat.le_of_ble_eq_true rfl) _ rfl ?_
  change XW F 23 282 [(h, .inr (5, [.ref q1, .ref q6, .ref q8, .ref q13, .ref q21, .null])), (q1, .inr (0, [.int (nI 8), .int (nI 0), .ref q2])), (q2, .inl (c 3, 3, .inr (.inr (.inr (.inr (fun j => if j = 0 then some q3 else if j = 1 then some q4 else some q5)))))), (q3, .inl (c 0, 14, .inl f8)), (q4, .inl (c 0, 14, .inl (fun _ => 0))), (q5, .inl (c 0, 14, .inl f10)), (q6, .inr (2, [.int (nI 0), .ref q7])), (q7, .inl (c 0, 64, .inl (fun _ => 0))), (q8, .inr (1, [.int (nI 0), .ref q9, .ref q10, .ref q11, .ref q12])), (q9, .inl (c 0, 8, .inl (fun _ => 0))), (q10, .inl (c 1, 8, .inl (fun _ => 0))), (q11, .inl (c 0, 8, .inl (fun _ => 0))), (q12, .inl (c 0, 8, .inl (fun _ => 0))), (q13, .inr (4, [.int (nI 0), .ref q14, .ref q15, .ref q16, .int (nI 0), .int (nI 0), .ref q17, .ref q18, .ref q19, .ref q20])), (q14, .inl (c 1, 16, .inl (fun _ => 0))), (q15, .inl (c 0, 16, .inl (fun _ => 0))), (q16, .inl (c 1, 16, .inl (fun _ => 0))), (q17, .inl (c 0, 5, .inl (fun _ => 0))), (q18, .inl (c 0, 16, .inl (fun _ => 0))), (q19, .inl (c 0, 4, .inl (fun _ => 0))), (q20, .inl (c 0, 16, .inl (fun _ => 0))), (q21, .inr (3, [.ref q1, .ref q6, .ref q22, .ref q23])), (q22, .inl (c 0, 14, .inl (fun _ => 0))), (q23, .inl (c 0, 14, .inl (fun _ => 0)))] [(0, .ref h)] 67 []
  refine x_aload_n hC 0 rfl dX5_init_67 ?_
  refine x_bipush hC (v := (nI 7)) dX5_init_68 rfl ?_
  refine x_newa hC (atype := .int) (ty := .int) (N := 7) (a0 := (7, .inl (fun _ => 0))) 0 rfl rfl ar_i (fun _ => rfl) (Nat.le_of_ble_eq_true rfl) (Nat.le_of_ble_eq_true rfl) dX5_init_70 (by rw [hRm]; exact Nat.le_of_ble_eq_true rfl) (by rw [hRm]; exact Nat.le_of_ble_eq_true rfl) (fun q24 => ?_)
  change XW F 24 289 [(h, .inr (5, [.ref q1, .ref q6, .ref q8, .ref q13, .ref q21, .null])), (q1, .inr (0, [.int (nI 8), .int (nI 0), .ref q2])), (q2, .inl (c 3, 3, .inr (.inr (.inr (.inr (fun j => if j = 0 then some q3 else if j = 1 then some q4 else some q5)))))), (q3, .inl (c 0, 14, .inl f8)), (q4, .inl (c 0, 14, .inl (fun _ => 0))), (q5, .inl (c 0, 14, .inl f10)), (q6, .inr (2, [.int (nI 0), .ref q7])), (q7, .inl (c 0, 64, .inl (fun _ => 0))), (q8, .inr (1, [.int (nI 0), .ref q9, .ref q10, .ref q11, .ref q12])), (q9, .inl (c 0, 8, .inl (fun _ => 0))), (q10, .inl (c 1, 8, .inl (fun _ => 0))), (q11, .inl (c 0, 8, .inl (fun _ => 0))), (q12, .inl (c 0, 8, .inl (fun _ => 0))), (q13, .inr (4, [.int (nI 0), .ref q14, .ref q15, .ref q16, .int (nI 0), .int (nI 0), .ref q17, .ref q18, .ref q19, .ref q20])), (q14, .inl (c 1, 16, .inl (fun _ => 0))), (q15, .inl (c 0, 16, .inl (fun _ => 0))), (q16, .inl (c 1, 16, .inl (fun _ => 0))), (q17, .inl (c 0, 5, .inl (fun _ => 0))), (q18, .inl (c 0, 16, .inl (fun _ => 0))), (q19, .inl (c 0, 4, .inl (fun _ => 0))), (q20, .inl (c 0, 16, .inl (fun _ => 0))), (q21, .inr (3, [.ref q1, .ref q6, .ref q22, .ref q23])), (q22, .inl (c 0, 14, .inl (fun _ => 0))), (q23, .inl (c 0, 14, .inl (fun _ => 0))), (q24, .inl (c 0, 7, .inl (fun _ => 0)))] [(0, .ref h)] 72 [.ref q24, .ref h]
  refine x_putF hC hR.2.1 fq_X5_46 dX5_init_72 0 rfl rfl rfl (Nat.le_of_ble_eq_true rfl) _ rfl ?_
  change XW F 24 289 [(h, .inr (5, [.ref q1, .ref q6, .ref q8, .ref q13, .ref q21, .ref q24])), (q1, .inr (0, [.int (nI 8), .int (nI 0), .ref q2])), (q2, .inl (c 3, 3, .inr (.inr (.inr (.inr (fun j => if j = 0 then some q3 else if j = 1 then some q4 else some q5)))))), (q3, .inl (c 0, 14, .inl f8)), (q4, .inl (c 0, 14, .inl (fun _ => 0))), (q5, .inl (c 0, 14, .inl f10)), (q6, .inr (2, [.int (nI 0), .ref q7])), (q7, .inl (c 0, 64, .inl (fun _ => 0))), (q8, .inr (1, [.int (nI 0), .ref q9, .ref q10, .ref q11, .ref q12])), (q9, .inl (c 0, 8, .inl (fun _ => 0))), (q10, .inl (c 1, 8, .inl (fun _ => 0))), (q11, .inl (c 0, 8, .inl (fun _ => 0))), (q12, .inl (c 0, 8, .inl (fun _ => 0))), (q13, .inr (4, [.int (nI 0), .ref q14, .ref q15, .ref q16, .int (nI 0), .int (nI 0), .ref q17, .ref q18, .ref q19, .ref q20])), (q14, .inl (c 1, 16, .inl (fun _ => 0))), (q15, .inl (c 0, 16, .inl (fun _ => 0))), (q16, .inl (c 1, 16, .inl (fun _ => 0))), (q17, .inl (c 0, 5, .inl (fun _ => 0))), (q18, .inl (c 0, 16, .inl (fun _ => 0))), (q19, .inl (c 0, 4, .inl (fun _ => 0))), (q20, .inl (c 0, 16, .inl (fun _ => 0))), (q21, .inr (3, [.ref q1, .ref q6, .ref q22, .ref q23])), (q22, .inl (c 0, 14, .inl (fun _ => 0))), (q23, .inl (c 0, 14, .inl (fun _ => 0))), (q24, .inl (c 0, 7, .inl (fun _ => 0)))] [(0, .ref h)] 75 []
  refine x_sub (wd' := [(h, .inr (5, [.ref q1, .ref q6, .ref q8, .ref q13, .ref q21, .ref q24])), (q1, .inr (0, [.int (nI 8), .int (nI 0), .ref q2])), (q6, .inr (2, [.int (nI 0), .ref q7])), (q8, .inr (1, [.int (nI 0), .ref q9, .ref q10, .ref q11, .ref q12])), (q13, .inr (4, [.int (nI 0), .ref q14, .ref q15, .ref q16, .int (nI 0), .int (nI 0), .ref q17, .ref q18, .ref q19, .ref q20])), (q21, .inr (3, [.ref q1, .ref q6, .ref q22, .ref q23])), (q24, .inl (c 0, 7, .inl (fun _ => 0))), (q2, .inl (c 3, 3, .inr (.inr (.inr (.inr (fun j => if j = 0 then some q3 else if j = 1 then some q4 else some q5)))))), (q3, .inl (c 0, 14, .inl f8)), (q4, .inl (c 0, 14, .inl (fun _ => 0))), (q5, .inl (c 0, 14, .inl f10)), (q7, .inl (c 0, 64, .inl (fun _ => 0))), (q9, .inl (c 0, 8, .inl (fun _ => 0))), (q10, .inl (c 1, 8, .inl (fun _ => 0))), (q11, .inl (c 0, 8, .inl (fun _ => 0))), (q12, .inl (c 0, 8, .inl (fun _ => 0))), (q14, .inl (c 1, 16, .inl (fun _ => 0))), (q15, .inl (c 0, 16, .inl (fun _ => 0))), (q16, .inl (c 1, 16, .inl (fun _ => 0))), (q17, .inl (c 0, 5, .inl (fun _ => 0))), (q18, .inl (c 0, 16, .inl (fun _ => 0))), (q19, .inl (c 0, 4, .inl (fun _ => 0))), (q20, .inl (c 0, 16, .inl (fun _ => 0))), (q22, .inl (c 0, 14, .inl (fun _ => 0))), (q23, .inl (c 0, 14, .inl (fun _ => 0)))]) [0, 1, 6, 8, 13, 21, 24, 2, 3, 4, 5, 7, 9, 10, 11, 12, 14, 15, 16, 17, 18, 19, 20, 22, 23] rfl rfl rfl ?_
  exact x_vretN hC hR dX5_init_75 ⟨fun k => [h, q1, q6, q8, q13, q21, q24, q2, q3, q4, q5, q7, q9, q10, q11, q12, q14, q15, q16, q17, q18, q19, q20, q22, q23].getD k 0, mu0 f8 f10, rfl, rfl, xi0 hf⟩
def ta0 (f2 f4 f9 : Nat → Int32) : MM := (fun c => match c with
  | 0 => fun j => match j with
    | 0 => nI 8
    | _ => 0
  | 2 => f2
  | 4 => f4
  | 9 => f9
  | _ => fun _ => 0, fun _ => 0)
theorem mi0 {f2 f4 f9 : Nat → Int32} (hf : ∀ j, j < 14 → f2 j = nI 1 ∧ f4 j = nI 4) (h9 : ∀ j, j < 16 → f9 j = zI (-1)) : MI (ta0 f2 f4 f9) S0 := ⟨rfl, rfl, rfl, rfl, fun _ _ => rfl, fun j hj => (hf j hj).1, fun _ _ => rfl, fun j hj => (hf j hj).2, fun _ _ => rfl, fun j hj => absurd hj (Nat.not_lt_zero j), fun q hq => ⟨h9 q hq, rfl⟩, ⟨false, rfl, fun h => by cases h⟩⟩
set_option maxHeartbeats 4000000 in
set_option maxRecDepth 100000 in
theorem c_X6_init {l : Launch} {D : va_G} {c : Nat → ClassId} {h : Nat} : KN l D (tyE c) yX6_init cX6_init 2 (rmN 1 18 49360) [.ref h] [(h, .inr (6, [.null, .null, .null, .null, .null, .null, .null, .null, .null, .null, .null, .int 0, .int 0, .int 0, .int 0, .int 0, .null, .null, .null, .int 0, .null, .int 0, .null, .null, .null]))] 18 49360 (fun u => ∃ (b : Nat → Nat) (τ : MM), u = mw c b τ ∧ b 0 = h ∧ MI τ S0) := by
  refine x_enterN (by decide) rfl (Nat.le_of_ble_eq_true rfl) (fun F hl hD hn hRm hC hR hNX => ?_)
  subst hl hD
  change FC F cX6_init RX6 (tyE c) at hC
  change XW F 0 0 [(h, .inr (6, [.null, .null, .null, .null, .null, .null, .null, .null, .null, .null, .null, .int 0, .int 0, .int 0, .int 0, .int 0, .null, .null, .null, .int 0, .null, .int 0, .null, .null, .null]))] [(0, .ref h)] 0 []
  refine x_aload_n hC 0 rfl dX6_init_0 ?_
  refine x_objI hC oi_X6_1 oi_i oi_c dX6_init_1 (Nat.le_of_ble_eq_true rfl) hRm (by decide) ?_
  refine x_aload_n hC 0 rfl dX6_init_4 ?_
  refine x_bipush hC (v := (nI 7)) dX6_init_5 rfl ?_
  refine x_newa hC (atype := .int) (ty := .int) (N := 7) (a0 := (7, .inl (fun _ => 0))) 0 rfl rfl ar_i (fun _ => rfl) (Nat.le_of_ble_eq_true rfl) (Nat.le_of_ble_eq_true rfl) dX6_init_7 (by rw [hRm]; exact Nat.le_of_ble_eq_true rfl) (by rw [hRm]; exact Nat.le_of_ble_eq_true rfl) (fun q1 => ?_)
  change XW F 1 7 [(h, .inr (6, [.null, .null, .null, .null, .null, .null, .null, .null, .null, .null, .null, .int 0, .int 0, .int 0, .int 0, .int 0, .null, .null, .null, .int 0, .null, .int 0, .null, .null, .null])), (q1, .inl (c 0, 7, .inl (fun _ => 0)))] [(0, .ref h)] 9 [.ref q1, .ref h]
  refine x_putF hC hR.2.1 fq_X6_7 dX6_init_9 0 rfl rfl rfl (Nat.le_of_ble_eq_true rfl) _ rfl ?_
  change XW F 1 7 [(h, .inr (6, [.ref q1, .null, .null, .null, .null, .null, .null, .null, .null, .null, .null, .int 0, .int 0, .int 0, .int 0, .int 0, .null, .null, .null, .int 0, .null, .int 0, .null, .null, .null])), (q1, .inl (c 0, 7, .inl (fun _ => 0)))] [(0, .ref h)] 12 []
  refine x_aload_n hC 0 rfl dX6_init_12 ?_
  refine x_bipush hC (v := (nI 14)) dX6_init_13 rfl ?_
  refine x_newa hC (atype := .int) (ty := .int) (N := 14) (a0 := (14, .inl (fun _ => 0))) 0 rfl rfl ar_i (fun _ => rfl) (Nat.le_of_ble_eq_true rfl) (Nat.le_of_ble_eq_true rfl) dX6_init_15 (by rw [hRm]; exact Nat.le_of_ble_eq_true rfl) (by rw [hRm]; exact Nat.le_of_ble_eq_true rfl) (fun q2 => ?_)
  change XW F 2 21 [(h, .inr (6, [.ref q1, .null, .null, .null, .null, .null, .null, .null, .null, .null, .null, .int 0, .int 0, .int 0, .int 0, .int 0, .null, .null, .null, .int 0, .null, .int 0, .null, .null, .null])), (q1, .inl (c 0, 7, .inl (fun _ => 0))), (q2, .inl (c 0, 14, .inl (fun _ => 0)))] [(0, .ref h)] 17 [.ref q2, .ref h]
  refine x_putF hC hR.2.1 fq_X6_13 dX6_init_17 0 rfl rfl rfl (Nat.le_of_ble_eq_true rfl) _ rfl ?_
  change XW F 2 21 [(h, .inr (6, [.ref q1, .ref q2, .null, .null, .null, .null, .null, .null, .null, .null, .null, .int 0, .int 0, .int 0, .int 0, .int 0, .null, .null, .null, .int 0, .null, .int 0, .null, .null, .null])), (q1, .inl (c 0, 7, .inl (fun _ => 0))), (q2, .inl (c 0, 14, .inl (fun _ => 0)))] [(0, .ref h)] 20 []
  refine x_aload_n hC 0 rfl dX6_init_20 ?_
  refine x_bipush hC (v := (nI 14)) dX6_init_21 rfl ?_
  refine x_newa hC (atype := .int) (ty := .int) (N := 14) (a0 := (14, .inl (fun _ => 0))) 0 rfl rfl ar_i (fun _ => rfl) (Nat.le_of_ble_eq_true rfl) (Nat.le_of_ble_eq_true rfl) dX6_init_23 (by rw [hRm]; exact Nat.le_of_ble_eq_true rfl) (by rw [hRm]; exact Nat.le_of_ble_eq_true rfl) (fun q3 => ?_)
  change XW F 3 35 [(h, .inr (6, [.ref q1, .ref q2, .null, .null, .null, .null, .null, .null, .null, .null, .null, .int 0, .int 0, .int 0, .int 0, .int 0, .null, .null, .null, .int 0, .null, .int 0, .null, .null, .null])), (q1, .inl (c 0, 7, .inl (fun _ => 0))), (q2, .inl (c 0, 14, .inl (fun _ => 0))), (q3, .inl (c 0, 14, .inl (fun _ => 0)))] [(0, .ref h)] 25 [.ref q3, .ref h]
  refine x_putF hC hR.2.1 fq_X6_16 dX6_init_25 0 rfl rfl rfl (Nat.le_of_ble_eq_true rfl) _ rfl ?_
  change XW F 3 35 [(h, .inr (6, [.ref q1, .ref q2, .ref q3, .null, .null, .null, .null, .null, .null, .null, .null, .int 0, .int 0, .int 0, .int 0, .int 0, .null, .null, .null, .int 0, .null, .int 0, .null, .null, .null])), (q1, .inl (c 0, 7, .inl (fun _ => 0))), (q2, .inl (c 0, 14, .inl (fun _ => 0))), (q3, .inl (c 0, 14, .inl (fun _ => 0)))] [(0, .ref h)] 28 []
  refine x_aload_n hC 0 rfl dX6_init_28 ?_
  refine x_bipush hC (v := (nI 14)) dX6_init_29 rfl ?_
  refine x_newa hC (atype := .int) (ty := .int) (N := 14) (a0 := (14, .inl (fun _ => 0))) 0 rfl rfl ar_i (fun _ => rfl) (Nat.le_of_ble_eq_true rfl) (Nat.le_of_ble_eq_true rfl) dX6_init_31 (by rw [hRm]; exact Nat.le_of_ble_eq_true rfl) (by rw [hRm]; exact Nat.le_of_ble_eq_true rfl) (fun q4 => ?_)
  change XW F 4 49 [(h, .inr (6, [.ref q1, .ref q2, .ref q3, .null, .null, .null, .null, .null, .null, .null, .null, .int 0, .int 0, .int 0, .int 0, .int 0, .null, .null, .null, .int 0, .null, .int 0, .null, .null, .null])), (q1, .inl (c 0, 7, .inl (fun _ => 0))), (q2, .inl (c 0, 14, .inl (fun _ => 0))), (q3, .inl (c 0, 14, .inl (fun _ => 0))), (q4, .inl (c 0, 14, .inl (fun _ => 0)))] [(0, .ref h)] 33 [.ref q4, .ref h]
  refine x_putF hC hR.2.1 fq_X6_19 dX6_init_33 0 rfl rfl rfl (Nat.le_of_ble_eq_true rfl) _ rfl ?_
  change XW F 4 49 [(h, .inr (6, [.ref q1, .ref q2, .ref q3, .ref q4, .null, .null, .null, .null, .null, .null, .null, .int 0, .int 0, .int 0, .int 0, .int 0, .null, .null, .null, .int 0, .null, .int 0, .null, .null, .null])), (q1, .inl (c 0, 7, .inl (fun _ => 0))), (q2, .inl (c 0, 14, .inl (fun _ => 0))), (q3, .inl (c 0, 14, .inl (fun _ => 0))), (q4, .inl (c 0, 14, .inl (fun _ => 0)))] [(0, .ref h)] 36 []
  refine x_aload_n hC 0 rfl dX6_init_36 ?_
  refine x_bipush hC (v := (nI 8)) dX6_init_37 rfl ?_
  refine x_newa hC (atype := .int) (ty := .int) (N := 8) (a0 := (8, .inl (fun _ => 0))) 0 rfl rfl ar_i (fun _ => rfl) (Nat.le_of_ble_eq_true rfl) (Nat.le_of_ble_eq_true rfl) dX6_init_39 (by rw [hRm]; exact Nat.le_of_ble_eq_true rfl) (by rw [hRm]; exact Nat.le_of_ble_eq_true rfl) (fun q5 => ?_)
  change XW F 5 57 [(h, .inr (6, [.ref q1, .ref q2, .ref q3, .ref q4, .null, .null, .null, .null, .null, .null, .null, .int 0, .int 0, .int 0, .int 0, .int 0, .null, .null, .null, .int 0, .null, .int 0, .null, .null, .null])), (q1, .inl (c 0, 7, .inl (fun _ => 0))), (q2, .inl (c 0, 14, .inl (fun _ => 0))), (q3, .inl (c 0, 14, .inl (fun _ => 0))), (q4, .inl (c 0, 14, .inl (fun _ => 0))), (q5, .inl (c 0, 8, .inl (fun _ => 0)))] [(0, .ref h)] 41 [.ref q5, .ref h]
  refine x_putF hC hR.2.1 fq_X6_22 dX6_init_41 0 rfl rfl rfl (Nat.le_of_ble_eq_true rfl) _ rfl ?_
  change XW F 5 57 [(h, .inr (6, [.ref q1, .ref q2, .ref q3, .ref q4, .ref q5, .null, .null, .null, .null, .null, .null, .int 0, .int 0, .int 0, .int 0, .int 0, .null, .null, .null, .int 0, .null, .int 0, .null, .null, .null])), (q1, .inl (c 0, 7, .inl (fun _ => 0))), (q2, .inl (c 0, 14, .inl (fun _ => 0))), (q3, .inl (c 0, 14, .inl (fun _ => 0))), (q4, .inl (c 0, 14, .inl (fun _ => 0))), (q5, .inl (c 0, 8, .inl (fun _ => 0)))] [(0, .ref h)] 44 []
  refine x_aload_n hC 0 rfl dX6_init_44 ?_
  refine x_bipush hC (v := (nI 8)) dX6_init_45 rfl ?_
  refine x_newa hC (atype := .int) (ty := .int) (N := 8) (a0 := (8, .inl (fun _ => 0))) 0 rfl rfl ar_i (fun _ => rfl) (Nat.le_of_ble_eq_true rfl) (Nat.le_of_ble_eq_true rfl) dX6_init_47 (by rw [hRm]; exact Nat.le_of_ble_eq_true rfl) (by rw [hRm]; exact Nat.le_of_ble_eq_true rfl) (fun q6 => ?_)
  change XW F 6 65 [(h, .inr (6, [.ref q1, .ref q2, .ref q3, .ref q4, .ref q5, .null, .null, .null, .null, .null, .null, .int 0, .int 0, .int 0, .int 0, .int 0, .null, .null, .null, .int 0, .null, .int 0, .null, .null, .null])), (q1, .inl (c 0, 7, .inl (fun _ => 0))), (q2, .inl (c 0, 14, .inl (fun _ => 0))), (q3, .inl (c 0, 14, .inl (fun _ => 0))), (q4, .inl (c 0, 14, .inl (fun _ => 0))), (q5, .inl (c 0, 8, .inl (fun _ => 0))), (q6, .inl (c 0, 8, .inl (fun _ => 0)))] [(0, .ref h)] 49 [.ref q6, .ref h]
  refine x_putF hC hR.2.1 fq_X6_25 dX6_init_49 0 rfl rfl rfl (Nat.le_of_ble_eq_true rfl) _ rfl ?_
  change XW F 6 65 [(h, .inr (6, [.ref q1, .ref q2, .ref q3, .ref q4, .ref q5, .ref q6, .null, .null, .null, .null, .null, .int 0, .int 0, .int 0, .int 0, .int 0, .null, .null, .null, .int 0, .null, .int 0, .null, .null, .null])), (q1, .inl (c 0, 7, .inl (fun _ => 0))), (q2, .inl (c 0, 14, .inl (fun _ => 0))), (q3, .inl (c 0, 14, .inl (fun _ => 0))), (q4, .inl (c 0, 14, .inl (fun _ => 0))), (q5, .inl (c 0, 8, .inl (fun _ => 0))), (q6, .inl (c 0, 8, .inl (fun _ => 0)))] [(0, .ref h)] 52 []
  refine x_aload_n hC 0 rfl dX6_init_52 ?_
  refine x_bipush hC (v := (nI 8)) dX6_init_53 rfl ?_
  refine x_newa hC (atype := .int) (ty := .int) (N := 8) (a0 := (8, .inl (fun _ => 0))) 0 rfl rfl ar_i (fun _ => rfl) (Nat.le_of_ble_eq_true rfl) (Nat.le_of_ble_eq_true rfl) dX6_init_55 (by rw [hRm]; exact Nat.le_of_ble_eq_true rfl) (by rw [hRm]; exact Nat.le_of_ble_eq_true rfl) (fun q7 => ?_)
  change XW F 7 73 [(h, .inr (6, [.ref q1, .ref q2, .ref q3, .ref q4, .ref q5, .ref q6, .null, .null, .null, .null, .null, .int 0, .int 0, .int 0, .int 0, .int 0, .null, .null, .null, .int 0, .null, .int 0, .null, .null, .null])), (q1, .inl (c 0, 7, .inl (fun _ => 0))), (q2, .inl (c 0, 14, .inl (fun _ => 0))), (q3, .inl (c 0, 14, .inl (fun _ => 0))), (q4, .inl (c 0, 14, .inl (fun _ => 0))), (q5, .inl (c 0, 8, .inl (fun _ => 0))), (q6, .inl (c 0, 8, .inl (fun _ => 0))), (q7, .inl (c 0, 8, .inl (fun _ => 0)))] [(0, .ref h)] 57 [.ref q7, .ref h]
  refine x_putF hC hR.2.1 fq_X6_28 dX6_init_57 0 rfl rfl rfl (Nat.le_of_ble_eq_true rfl) _ rfl ?_
  change XW F 7 73 [(h, .inr (6, [.ref q1, .ref q2, .ref q3, .ref q4, .ref q5, .ref q6, .ref q7, .null, .null, .null, .null, .int 0, .int 0, .int 0, .int 0, .int 0, .null, .null, .null, .int 0, .null, .int 0, .null, .null, .null])), (q1, .inl (c 0, 7, .inl (fun _ => 0))), (q2, .inl (c 0, 14, .inl (fun _ => 0))), (q3, .inl (c 0, 14, .inl (fun _ => 0))), (q4, .inl (c 0, 14, .inl (fun _ => 0))), (q5, .inl (c 0, 8, .inl (fun _ => 0))), (q6, .inl (c 0, 8, .inl (fun _ => 0))), (q7, .inl (c 0, 8, .inl (fun _ => 0)))] [(0, .ref h)] 60 []
  refine x_aload_n hC 0 rfl dX6_init_60 ?_
  refine x_bipush hC (v := (nI 6)) dX6_init_61 rfl ?_
  refine x_newa hC (atype := .int) (ty := .int) (N := 6) (a0 := (6, .inl (fun _ => 0))) 0 rfl rfl ar_i (fun _ => rfl) (Nat.le_of_ble_eq_true rfl) (Nat.le_of_ble_eq_true rfl) dX6_init_63 (by rw [hRm]; exact Nat.le_of_ble_eq_true rfl) (by rw [hRm]; exact Nat.le_of_ble_eq_true rfl) (fun q8 => ?_)
  change XW F 8 79 [(h, .inr (6, [.ref q1, .ref q2, .ref q3, .ref q4, .ref q5, .ref q6, .ref q7, .null, .null, .null, .null, .int 0, .int 0, .int 0, .int 0, .int 0, .null, .null, .null, .int 0, .null, .int 0, .null, .null, .null])), (q1, .inl (c 0, 7, .inl (fun _ => 0))), (q2, .inl (c 0, 14, .inl (fun _ => 0))), (q3, .inl (c 0, 14, .inl (fun _ => 0))), (q4, .inl (c 0, 14, .inl (fun _ => 0))), (q5, .inl (c 0, 8, .inl (fun _ => 0))), (q6, .inl (c 0, 8, .inl (fun _ => 0))), (q7, .inl (c 0, 8, .inl (fun _ => 0))), (q8, .inl (c 0, 6, .inl (fun _ => 0)))] [(0, .ref h)] 65 [.ref q8, .ref h]
  refine x_putF hC hR.2.1 fq_X6_31 dX6_init_65 0 rfl rfl rfl (Nat.le_of_ble_eq_true rfl) _ rfl ?_
  change XW F 8 79 [(h, .inr (6, [.ref q1, .ref q2, .ref q3, .ref q4, .ref q5, .ref q6, .ref q7, .ref q8, .null, .null, .null, .int 0, .int 0, .int 0, .int 0, .int 0, .null, .null, .null, .int 0, .null, .int 0, .null, .null, .null])), (q1, .inl (c 0, 7, .inl (fun _ => 0))), (q2, .inl (c 0, 14, .inl (fun _ => 0))), (q3, .inl (c 0, 14, .inl (fun _ => 0))), (q4, .inl (c 0, 14, .inl (fun _ => 0))), (q5, .inl (c 0, 8, .inl (fun _ => 0))), (q6, .inl (c 0, 8, .inl (fun _ => 0))), (q7, .inl (c 0, 8, .inl (fun _ => 0))), (q8, .inl (c 0, 6, .inl (fun _ => 0)))] [(0, .ref h)] 68 []
  refine x_aload_n hC 0 rfl dX6_init_68 ?_
  refine x_bipush hC (v := (nI 16)) dX6_init_69 rfl ?_
  refine x_newa hC (atype := .int) (ty := .int) (N := 16) (a0 := (16, .inl (fun _ => 0))) 0 rfl rfl ar_i (fun _ => rfl) (Nat.le_of_ble_eq_true rfl) (Nat.le_of_ble_eq_true rfl) dX6_init_71 (by rw [hRm]; exact Nat.le_of_ble_eq_true rfl) (by rw [hRm]; exact Nat.le_of_ble_eq_true rfl) (fun q9 => ?_)
  change XW F 9 95 [(h, .inr (6, [.ref q1, .ref q2, .ref q3, .ref q4, .ref q5, .ref q6, .ref q7, .ref q8, .null, .null, .null, .int 0, .int 0, .int 0, .int 0, .int 0, .null, .null, .null, .int 0, .null, .int 0, .null, .null, .null])), (q1, .inl (c 0, 7, .inl (fun _ => 0))), (q2, .inl (c 0, 14, .inl (fun _ => 0))), (q3, .inl (c 0, 14, .inl (fun _ => 0))), (q4, .inl (c 0, 14, .inl (fun _ => 0))), (q5, .inl (c 0, 8, .inl (fun _ => 0))), (q6, .inl (c 0, 8, .inl (fun _ => 0))), (q7, .inl (c 0, 8, .inl (fun _ => 0))), (q8, .inl (c 0, 6, .inl (fun _ => 0))), (q9, .inl (c 0, 16, .inl (fun _ => 0)))] [(0, .ref h)] 73 [.ref q9, .ref h]
  refine x_putF hC hR.2.1 fq_X6_34 dX6_init_73 0 rfl rfl rfl (Nat.le_of_ble_eq_true rfl) _ rfl ?_
  change XW F 9 95 [(h, .inr (6, [.ref q1, .ref q2, .ref q3, .ref q4, .ref q5, .ref q6, .ref q7, .ref q8, .ref q9, .null, .null, .int 0, .int 0, .int 0, .int 0, .int 0, .null, .null, .null, .int 0, .null, .int 0, .null, .null, .null])), (q1, .inl (c 0, 7, .inl (fun _ => 0))), (q2, .inl (c 0, 14, .inl (fun _ => 0))), (q3, .inl (c 0, 14, .inl (fun _ => 0))), (q4, .inl (c 0, 14, .inl (fun _ => 0))), (q5, .inl (c 0, 8, .inl (fun _ => 0))), (q6, .inl (c 0, 8, .inl (fun _ => 0))), (q7, .inl (c 0, 8, .inl (fun _ => 0))), (q8, .inl (c 0, 6, .inl (fun _ => 0))), (q9, .inl (c 0, 16, .inl (fun _ => 0)))] [(0, .ref h)] 76 []
  refine x_aload_n hC 0 rfl dX6_init_76 ?_
  refine x_bipush hC (v := (nI 8)) dX6_init_77 rfl ?_
  refine x_newa hC (atype := .boolean) (ty := .boolean) (N := 8) (a0 := (8, .inl (fun _ => 0))) 1 rfl rfl ar_z (fun _ => rfl) (Nat.le_of_ble_eq_true rfl) (Nat.le_of_ble_eq_true rfl) dX6_init_79 (by rw [hRm]; exact Nat.le_of_ble_eq_true rfl) (by rw [hRm]; exact Nat.le_of_ble_eq_true rfl) (fun q10 => ?_)
  change XW F 10 103 [(h, .inr (6, [.ref q1, .ref q2, .ref q3, .ref q4, .ref q5, .ref q6, .ref q7, .ref q8, .ref q9, .null, .null, .int 0, .int 0, .int 0, .int 0, .int 0, .null, .null, .null, .int 0, .null, .int 0, .null, .null, .null])), (q1, .inl (c 0, 7, .inl (fun _ => 0))), (q2, .inl (c 0, 14, .inl (fun _ => 0))), (q3, .inl (c 0, 14, .inl (fun _ => 0))), (q4, .inl (c 0, 14, .inl (fun _ => 0))), (q5, .inl (c 0, 8, .inl (fun _ => 0))), (q6, .inl (c 0, 8, .inl (fun _ => 0))), (q7, .inl (c 0, 8, .inl (fun _ => 0))), (q8, .inl (c 0, 6, .inl (fun _ => 0))), (q9, .inl (c 0, 16, .inl (fun _ => 0))), (q10, .inl (c 1, 8, .inl (fun _ => 0)))] [(0, .ref h)] 81 [.ref q10, .ref h]
  refine x_putF hC hR.2.1 fq_X6_37 dX6_init_81 0 rfl rfl rfl (Nat.le_of_ble_eq_true rfl) _ rfl ?_
  change XW F 10 103 [(h, .inr (6, [.ref q1, .ref q2, .ref q3, .ref q4, .ref q5, .ref q6, .ref q7, .ref q8, .ref q9, .ref q10, .null, .int 0, .int 0, .int 0, .int 0, .int 0, .null, .null, .null, .int 0, .null, .int 0, .null, .null, .null])), (q1, .inl (c 0, 7, .inl (fun _ => 0))), (q2, .inl (c 0, 14, .inl (fun _ => 0))), (q3, .inl (c 0, 14, .inl (fun _ => 0))), (q4, .inl (c 0, 14, .inl (fun _ => 0))), (q5, .inl (c 0, 8, .inl (fun _ => 0))), (q6, .inl (c 0, 8, .inl (fun _ => 0))), (q7, .inl (c 0, 8, .inl (fun _ => 0))), (q8, .inl (c 0, 6, .inl (fun _ => 0))), (q9, .inl (c 0, 16, .inl (fun _ => 0))), (q10, .inl (c 1, 8, .inl (fun _ => 0)))] [(0, .ref h)] 84 []
  refine x_aload_n hC 0 rfl dX6_init_84 ?_
  refine x_bipush hC (v := (nI 16)) dX6_init_85 rfl ?_
  refine x_newa hC (atype := .boolean) (ty := .boolean) (N := 16) (a0 := (16, .inl (fun _ => 0))) 1 rfl rfl ar_z (fun _ => rfl) (Nat.le_of_ble_eq_true rfl) (Nat.le_of_ble_eq_true rfl) dX6_init_87 (by rw [hRm]; exact Nat.le_of_ble_eq_true rfl) (by rw [hRm]; exact Nat.le_of_ble_eq_true rfl) (fun q11 => ?_)
  change XW F 11 119 [(h, .inr (6, [.ref q1, .ref q2, .ref q3, .ref q4, .ref q5, .ref q6, .ref q7, .ref q8, .ref q9, .ref q10, .null, .int 0, .int 0, .int 0, .int 0, .int 0, .null, .null, .null, .int 0, .null, .int 0, .null, .null, .null])), (q1, .inl (c 0, 7, .inl (fun _ => 0))), (q2, .inl (c 0, 14, .inl (fun _ => 0))), (q3, .inl (c 0, 14, .inl (fun _ => 0))), (q4, .inl (c 0, 14, .inl (fun _ => 0))), (q5, .inl (c 0, 8, .inl (fun _ => 0))), (q6, .inl (c 0, 8, .inl (fun _ => 0))), (q7, .inl (c 0, 8, .inl (fun _ => 0))), (q8, .inl (c 0, 6, .inl (fun _ => 0))), (q9, .inl (c 0, 16, .inl (fun _ => 0))), (q10, .inl (c 1, 8, .inl (fun _ => 0))), (q11, .inl (c 1, 16, .inl (fun _ => 0)))] [(0, .ref h)] 89 [.ref q11, .ref h]
  refine x_putF hC hR.2.1 fq_X6_41 dX6_init_89 0 rfl rfl rfl (Nat.le_of_ble_eq_true rfl) _ rfl ?_
  change XW F 11 119 [(h, .inr (6, [.ref q1, .ref q2, .ref q3, .ref q4, .ref q5, .ref q6, .ref q7, .ref q8, .ref q9, .ref q10, .ref q11, .int 0, .int 0, .int 0, .int 0, .int 0, .null, .null, .null, .int 0, .null, .int 0, .null, .null, .null])), (q1, .inl (c 0, 7, .inl (fun _ => 0))), (q2, .inl (c 0, 14, .inl (fun _ => 0))), (q3, .inl (c 0, 14, .inl (fun _ => 0))), (q4, .inl (c 0, 14, .inl (fun _ => 0))), (q5, .inl (c 0, 8, .inl (fun _ => 0))), (q6, .inl (c 0, 8, .inl (fun _ => 0))), (q7, .inl (c 0, 8, .inl (fun _ => 0))), (q8, .inl (c 0, 6, .inl (fun _ => 0))), (q9, .inl (c 0, 16, .inl (fun _ => 0))), (q10, .inl (c 1, 8, .inl (fun _ => 0))), (q11, .inl (c 1, 16, .inl (fun _ => 0)))] [(0, .ref h)] 92 []
  refine x_aload_n hC 0 rfl dX6_init_92 ?_
  refine x_bipush hC (v := (nI 8)) dX6_init_93 rfl ?_
  refine x_put hC fp_X6_44 dX6_init_95 0 rfl rfl rfl (Nat.le_of_ble_eq_true rfl) _ rfl ?_
  change XW F 11 119 [(h, .inr (6, [.ref q1, .ref q2, .ref q3, .ref q4, .ref q5, .ref q6, .ref q7, .ref q8, .ref q9, .ref q10, .ref q11, .int (nI 8), .int 0, .int 0, .int 0, .int 0, .null, .null, .null, .int 0, .null, .int 0, .null, .null, .null])), (q1, .inl (c 0, 7, .inl (fun _ => 0))), (q2, .inl (c 0, 14, .inl (fun _ => 0))), (q3, .inl (c 0, 14, .inl (fun _ => 0))), (q4, .inl (c 0, 14, .inl (fun _ => 0))), (q5, .inl (c 0, 8, .inl (fun _ => 0))), (q6, .inl (c 0, 8, .inl (fun _ => 0))), (q7, .inl (c 0, 8, .inl (fun _ => 0))), (q8, .inl (c 0, 6, .inl (fun _ => 0))), (q9, .inl (c 0, 16, .inl (fun _ => 0))), (q10, .inl (c 1, 8, .inl (fun _ => 0))), (q11, .inl (c 1, 16, .inl (fun _ => 0)))] [(0, .ref h)] 98 []
  refine x_aload_n hC 0 rfl dX6_init_98 ?_
  refine x_sipush hC (v := (nI 16384)) dX6_init_99 rfl ?_
  refine x_newa hC (atype := .int) (ty := .int) (N := 16384) (a0 := (16384, .inl (fun _ => 0))) 0 rfl rfl ar_i (fun _ => rfl) (Nat.le_of_ble_eq_true rfl) (Nat.le_of_ble_eq_true rfl) dX6_init_102 (by rw [hRm]; exact Nat.le_of_ble_eq_true rfl) (by rw [hRm]; exact Nat.le_of_ble_eq_true rfl) (fun q12 => ?_)
  change XW F 12 16503 [(h, .inr (6, [.ref q1, .ref q2, .ref q3, .ref q4, .ref q5, .ref q6, .ref q7, .ref q8, .ref q9, .ref q10, .ref q11, .int (nI 8), .int 0, .int 0, .int 0, .int 0, .null, .null, .null, .int 0, .null, .int 0, .null, .null, .null])), (q1, .inl (c 0, 7, .inl (fun _ => 0))), (q2, .inl (c 0, 14, .inl (fun _ => 0))), (q3, .inl (c 0, 14, .inl (fun _ => 0))), (q4, .inl (c 0, 14, .inl (fun _ => 0))), (q5, .inl (c 0, 8, .inl (fun _ => 0))), (q6, .inl (c 0, 8, .inl (fun _ => 0))), (q7, .inl (c 0, 8, .inl (fun _ => 0))), (q8, .inl (c 0, 6, .inl (fun _ => 0))), (q9, .inl (c 0, 16, .inl (fun _ => 0))), (q10, .inl (c 1, 8, .inl (fun _ => 0))), (q11, .inl (c 1, 16, .inl (fun _ => 0))), (q12, .inl (c 0, 16384, .inl (fun _ => 0)))] [(0, .ref h)] 104 [.ref q12, .ref h]
  refine x_putF hC hR.2.1 fq_X6_48 dX6_init_104 0 rfl rfl rfl (Nat.le_of_ble_eq_true rfl) _ rfl ?_
  change XW F 12 16503 [(h, .inr (6, [.ref q1, .ref q2, .ref q3, .ref q4, .ref q5, .ref q6, .ref q7, .ref q8, .ref q9, .ref q10, .ref q11, .int (nI 8), .int 0, .int 0, .int 0, .int 0, .ref q12, .null, .null, .int 0, .null, .int 0, .null, .null, .null])), (q1, .inl (c 0, 7, .inl (fun _ => 0))), (q2, .inl (c 0, 14, .inl (fun _ => 0))), (q3, .inl (c 0, 14, .inl (fun _ => 0))), (q4, .inl (c 0, 14, .inl (fun _ => 0))), (q5, .inl (c 0, 8, .inl (fun _ => 0))), (q6, .inl (c 0, 8, .inl (fun _ => 0))), (q7, .inl (c 0, 8, .inl (fun _ => 0))), (q8, .inl (c 0, 6, .inl (fun _ => 0))), (q9, .inl (c 0, 16, .inl (fun _ => 0))), (q10, .inl (c 1, 8, .inl (fun _ => 0))), (q11, .inl (c 1, 16, .inl (fun _ => 0))), (q12, .inl (c 0, 16384, .inl (fun _ => 0)))] [(0, .ref h)] 107 []
  refine x_aload_n hC 0 rfl dX6_init_107 ?_
  refine x_bipush hC (v := (nI 64)) dX6_init_108 rfl ?_
  refine x_newa hC (atype := .int) (ty := .int) (N := 64) (a0 := (64, .inl (fun _ => 0))) 0 rfl rfl ar_i (fun _ => rfl) (Nat.le_of_ble_eq_true rfl) (Nat.le_of_ble_eq_true rfl) dX6_init_110 (by rw [hRm]; exact Nat.le_of_ble_eq_true rfl) (by rw [hRm]; exact Nat.le_of_ble_eq_true rfl) (fun q13 => ?_)
  change XW F 13 16567 [(h, .inr (6, [.ref q1, .ref q2, .ref q3, .ref q4, .ref q5, .ref q6, .ref q7, .ref q8, .ref q9, .ref q10, .ref q11, .int (nI 8), .int 0, .int 0, .int 0, .int 0, .ref q12, .null, .null, .int 0, .null, .int 0, .null, .null, .null])), (q1, .inl (c 0, 7, .inl (fun _ => 0))), (q2, .inl (c 0, 14, .inl (fun _ => 0))), (q3, .inl (c 0, 14, .inl (fun _ => 0))), (q4, .inl (c 0, 14, .inl (fun _ => 0))), (q5, .inl (c 0, 8, .inl (fun _ => 0))), (q6, .inl (c 0, 8, .inl (fun _ => 0))), (q7, .inl (c 0, 8, .inl (fun _ => 0))), (q8, .inl (c 0, 6, .inl (fun _ => 0))), (q9, .inl (c 0, 16, .inl (fun _ => 0))), (q10, .inl (c 1, 8, .inl (fun _ => 0))), (q11, .inl (c 1, 16, .inl (fun _ => 0))), (q12, .inl (c 0, 16384, .inl (fun _ => 0))), (q13, .inl (c 0, 64, .inl (fun _ => 0)))] [(0, .ref h)] 112 [.ref q13, .ref h]
  refine x_putF hC hR.2.1 fq_X6_51 dX6_init_112 0 rfl rfl rfl (Nat.le_of_ble_eq_true rfl) _ rfl ?_
  change XW F 13 16567 [(h, .inr (6, [.ref q1, .ref q2, .ref q3, .ref q4, .ref q5, .ref q6, .ref q7, .ref q8, .ref q9, .ref q10, .ref q11, .int (nI 8), .int 0, .int 0, .int 0, .int 0, .ref q12, .ref q13, .null, .int 0, .null, .int 0, .null, .null, .null])), (q1, .inl (c 0, 7, .inl (fun _ => 0))), (q2, .inl (c 0, 14, .inl (fun _ => 0))), (q3, .inl (c 0, 14, .inl (fun _ => 0))), (q4, .inl (c 0, 14, .inl (fun _ => 0))), (q5, .inl (c 0, 8, .inl (fun _ => 0))), (q6, .inl (c 0, 8, .inl (fun _ => 0))), (q7, .inl (c 0, 8, .inl (fun _ => 0))), (q8, .inl (c 0, 6, .inl (fun _ => 0))), (q9, .inl (c 0, 16, .inl (fun _ => 0))), (q10, .inl (c 1, 8, .inl (fun _ => 0))), (q11, .inl (c 1, 16, .inl (fun _ => 0))), (q12, .inl (c 0, 16384, .inl (fun _ => 0))), (q13, .inl (c 0, 64, .inl (fun _ => 0)))] [(0, .ref h)] 115 []
  refine x_aload_n hC 0 rfl dX6_init_115 ?_
  refine x_sipush hC (v := (nI 16384)) dX6_init_116 rfl ?_
  refine x_newa hC (atype := .boolean) (ty := .boolean) (N := 16384) (a0 := (16384, .inl (fun _ => 0))) 1 rfl rfl ar_z (fun _ => rfl) (Nat.le_of_ble_eq_true rfl) (Nat.le_of_ble_eq_true rfl) dX6_init_119 (by rw [hRm]; exact Nat.le_of_ble_eq_true rfl) (by rw [hRm]; exact Nat.le_of_ble_eq_true rfl) (fun q14 => ?_)
  change XW F 14 32951 [(h, .inr (6, [.ref q1, .ref q2, .ref q3, .ref q4, .ref q5, .ref q6, .ref q7, .ref q8, .ref q9, .ref q10, .ref q11, .int (nI 8), .int 0, .int 0, .int 0, .int 0, .ref q12, .ref q13, .null, .int 0, .null, .int 0, .null, .null, .null])), (q1, .inl (c 0, 7, .inl (fun _ => 0))), (q2, .inl (c 0, 14, .inl (fun _ => 0))), (q3, .inl (c 0, 14, .inl (fun _ => 0))), (q4, .inl (c 0, 14, .inl (fun _ => 0))), (q5, .inl (c 0, 8, .inl (fun _ => 0))), (q6, .inl (c 0, 8, .inl (fun _ => 0))), (q7, .inl (c 0, 8, .inl (fun _ => 0))), (q8, .inl (c 0, 6, .inl (fun _ => 0))), (q9, .inl (c 0, 16, .inl (fun _ => 0))), (q10, .inl (c 1, 8, .inl (fun _ => 0))), (q11, .inl (c 1, 16, .inl (fun _ => 0))), (q12, .inl (c 0, 16384, .inl (fun _ => 0))), (q13, .inl (c 0, 64, .inl (fun _ => 0))), (q14, .inl (c 1, 16384, .inl (fun _ => 0)))] [(0, .ref h)] 121 [.ref q14, .ref h]
  refine x_putF hC hR.2.1 fq_X6_54 dX6_init_121 0 rfl rfl rfl (Nat.le_of_ble_eq_true rfl) _ rfl ?_
  change XW F 14 32951 [(h, .inr (6, [.ref q1, .ref q2, .ref q3, .ref q4, .ref q5, .ref q6, .ref q7, .ref q8, .ref q9, .ref q10, .ref q11, .int (nI 8), .int 0, .int 0, .int 0, .int 0, .ref q12, .ref q13, .ref q14, .int 0, .null, .int 0, .null, .null, .null])), (q1, .inl (c 0, 7, .inl (fun _ => 0))), (q2, .inl (c 0, 14, .inl (fun _ => 0))), (q3, .inl (c 0, 14, .inl (fun _ => 0))), (q4, .inl (c 0, 14, .inl (fun _ => 0))), (q5, .inl (c 0, 8, .inl (fun _ => 0))), (q6, .inl (c 0, 8, .inl (fun _ => 0))), (q7, .inl (c 0, 8, .inl (fun _ => 0))), (q8, .inl (c 0, 6, .inl (fun _ => 0))), (q9, .inl (c 0, 16, .inl (fun _ => 0))), (q10, .inl (c 1, 8, .inl (fun _ => 0))), (q11, .inl (c 1, 16, .inl (fun _ => 0))), (q12, .inl (c 0, 16384, .inl (fun _ => 0))), (q13, .inl (c 0, 64, .inl (fun _ => 0))), (q14, .inl (c 1, 16384, .inl (fun _ => 0)))] [(0, .ref h)] 124 []
  refine x_aload_n hC 0 rfl dX6_init_124 ?_
  refine x_sipush hC (v := (nI 16384)) dX6_init_125 rfl ?_
  refine x_newa hC (atype := .long) (ty := .long) (N := 16384) (a0 := (16384, .inr (.inl (fun _ => 0)))) 2 rfl rfl ar_l (fun _ => rfl) (Nat.le_of_ble_eq_true rfl) (Nat.le_of_ble_eq_true rfl) dX6_init_128 (by rw [hRm]; exact Nat.le_of_ble_eq_true rfl) (by rw [hRm]; exact Nat.le_of_ble_eq_true rfl) (fun q15 => ?_)
  change XW F 15 49335 [(h, .inr (6, [.ref q1, .ref q2, .ref q3, .ref q4, .ref q5, .ref q6, .ref q7, .ref q8, .ref q9, .ref q10, .ref q11, .int (nI 8), .int 0, .int 0, .int 0, .int 0, .ref q12, .ref q13, .ref q14, .int 0, .null, .int 0, .null, .null, .null])), (q1, .inl (c 0, 7, .inl (fun _ => 0))), (q2, .inl (c 0, 14, .inl (fun _ => 0))), (q3, .inl (c 0, 14, .inl (fun _ => 0))), (q4, .inl (c 0, 14, .inl (fun _ => 0))), (q5, .inl (c 0, 8, .inl (fun _ => 0))), (q6, .inl (c 0, 8, .inl (fun _ => 0))), (q7, .inl (c 0, 8, .inl (fun _ => 0))), (q8, .inl (c 0, 6, .inl (fun _ => 0))), (q9, .inl (c 0, 16, .inl (fun _ => 0))), (q10, .inl (c 1, 8, .inl (fun _ => 0))), (q11, .inl (c 1, 16, .inl (fun _ => 0))), (q12, .inl (c 0, 16384, .inl (fun _ => 0))), (q13, .inl (c 0, 64, .inl (fun _ => 0))), (q14, .inl (c 1, 16384, .inl (fun _ => 0))), (q15, .inl (c 2, 16384, .inr (.inl (fun _ => 0))))] [(0, .ref h)] 130 [.ref q15, .ref h]
  refine x_putF hC hR.2.1 fq_X6_57 dX6_init_130 0 rfl rfl rfl (Nat.le_of_ble_eq_true rfl) _ rfl ?_
  change XW F 15 49335 [(h, .inr (6, [.ref q1, .ref q2, .ref q3, .ref q4, .ref q5, .ref q6, .ref q7, .ref q8, .ref q9, .ref q10, .ref q11, .int (nI 8), .int 0, .int 0, .int 0, .int 0, .ref q12, .ref q13, .ref q14, .int 0, .ref q15, .int 0, .null, .null, .null])), (q1, .inl (c 0, 7, .inl (fun _ => 0))), (q2, .inl (c 0, 14, .inl (fun _ => 0))), (q3, .inl (c 0, 14, .inl (fun _ => 0))), (q4, .inl (c 0, 14, .inl (fun _ => 0))), (q5, .inl (c 0, 8, .inl (fun _ => 0))), (q6, .inl (c 0, 8, .inl (fun _ => 0))), (q7, .inl (c 0, 8, .inl (fun _ => 0))), (q8, .inl (c 0, 6, .inl (fun _ => 0))), (q9, .inl (c 0, 16, .inl (fun _ => 0))), (q10, .inl (c 1, 8, .inl (fun _ => 0))), (q11, .inl (c 1, 16, .inl (fun _ => 0))), (q12, .inl (c 0, 16384, .inl (fun _ => 0))), (q13, .inl (c 0, 64, .inl (fun _ => 0))), (q14, .inl (c 1, 16384, .inl (fun _ => 0))), (q15, .inl (c 2, 16384, .inr (.inl (fun _ => 0))))] [(0, .ref h)] 133 []
  refine x_aload_n hC 0 rfl dX6_init_133 ?_
  refine x_iconst hC (v := (nI 5)) dX6_init_134 rfl ?_
  refine x_newa hC (atype := .int) (ty := .int) (N := 5) (a0 := (5, .inl (fun _ => 0))) 0 rfl rfl ar_i (fun _ => rfl) (Nat.le_of_ble_eq_true rfl) (Nat.le_of_ble_eq_true rfl) dX6_init_135 (by rw [hRm]; exact Nat.le_of_ble_eq_true rfl) (by rw [hRm]; exact Nat.le_of_ble_eq_true rfl) (fun q16 => ?_)
  change XW F 16 49340 [(h, .inr (6, [.ref q1, .ref q2, .ref q3, .ref q4, .ref q5, .ref q6, .ref q7, .ref q8, .ref q9, .ref q10, .ref q11, .int (nI 8), .int 0, .int 0, .int 0, .int 0, .ref q12, .ref q13, .ref q14, .int 0, .ref q15, .int 0, .null, .null, .null])), (q1, .inl (c 0, 7, .inl (fun _ => 0))), (q2, .inl (c 0, 14, .inl (fun _ => 0))), (q3, .inl (c 0, 14, .inl (fun _ => 0))), (q4, .inl (c 0, 14, .inl (fun _ => 0))), (q5, .inl (c 0, 8, .inl (fun _ => 0))), (q6, .inl (c 0, 8, .inl (fun _ => 0))), (q7, .inl (c 0, 8, .inl (fun _ => 0))), (q8, .inl (c 0, 6, .inl (fun _ => 0))), (q9, .inl (c 0, 16, .inl (fun _ => 0))), (q10, .inl (c 1, 8, .inl (fun _ => 0))), (q11, .inl (c 1, 16, .inl (fun _ => 0))), (q12, .inl (c 0, 16384, .inl (fun _ => 0))), (q13, .inl (c 0, 64, .inl (fun _ => 0))), (q14, .inl (c 1, 16384, .inl (fun _ => 0))), (q15, .inl (c 2, 16384, .inr (.inl (fun _ => 0)))), (q16, .inl (c 0, 5, .inl (fun _ => 0)))] [(0, .ref h)] 137 [.ref q16, .ref h]
  refine x_putF hC hR.2.1 fq_X6_61 dX6_init_137 0 rfl rfl rfl (Nat.le_of_ble_eq_true rfl) _ rfl ?_
  change XW F 16 49340 [(h, .inr (6, [.ref q1, .ref q2, .ref q3, .ref q4, .ref q5, .ref q6, .ref q7, .ref q8, .ref q9, .ref q10, .ref q11, .int (nI 8), .int 0, .int 0, .int 0, .int 0, .ref q12, .ref q13, .ref q14, .int 0, .ref q15, .int 0, .ref q16, .null, .null])), (q1, .inl (c 0, 7, .inl (fun _ => 0))), (q2, .inl (c 0, 14, .inl (fun _ => 0))), (q3, .inl (c 0, 14, .inl (fun _ => 0))), (q4, .inl (c 0, 14, .inl (fun _ => 0))), (q5, .inl (c 0, 8, .inl (fun _ => 0))), (q6, .inl (c 0, 8, .inl (fun _ => 0))), (q7, .inl (c 0, 8, .inl (fun _ => 0))), (q8, .inl (c 0, 6, .inl (fun _ => 0))), (q9, .inl (c 0, 16, .inl (fun _ => 0))), (q10, .inl (c 1, 8, .inl (fun _ => 0))), (q11, .inl (c 1, 16, .inl (fun _ => 0))), (q12, .inl (c 0, 16384, .inl (fun _ => 0))), (q13, .inl (c 0, 64, .inl (fun _ => 0))), (q14, .inl (c 1, 16384, .inl (fun _ => 0))), (q15, .inl (c 2, 16384, .inr (.inl (fun _ => 0)))), (q16, .inl (c 0, 5, .inl (fun _ => 0)))] [(0, .ref h)] 140 []
  refine x_aload_n hC 0 rfl dX6_init_140 ?_
  refine x_bipush hC (v := (nI 16)) dX6_init_141 rfl ?_
  refine x_newa hC (atype := .int) (ty := .int) (N := 16) (a0 := (16, .inl (fun _ => 0))) 0 rfl rfl ar_i (fun _ => rfl) (Nat.le_of_ble_eq_true rfl) (Nat.le_of_ble_eq_true rfl) dX6_init_143 (by rw [hRm]; exact Nat.le_of_ble_eq_true rfl) (by rw [hRm]; exact Nat.le_of_ble_eq_true rfl) (fun q17 => ?_)
  change XW F 17 49356 [(h, .inr (6, [.ref q1, .ref q2, .ref q3, .ref q4, .ref q5, .ref q6, .ref q7, .ref q8, .ref q9, .ref q10, .ref q11, .int (nI 8), .int 0, .int 0, .int 0, .int 0, .ref q12, .ref q13, .ref q14, .int 0, .ref q15, .int 0, .ref q16, .null, .null])), (q1, .inl (c 0, 7, .inl (fun _ => 0))), (q2, .inl (c 0, 14, .inl (fun _ => 0))), (q3, .inl (c 0, 14, .inl (fun _ => 0))), (q4, .inl (c 0, 14, .inl (fun _ => 0))), (q5, .inl (c 0, 8, .inl (fun _ => 0))), (q6, .inl (c 0, 8, .inl (fun _ => 0))), (q7, .inl (c 0, 8, .inl (fun _ => 0))), (q8, .inl (c 0, 6, .inl (fun _ => 0))), (q9, .inl (c 0, 16, .inl (fun _ => 0))), (q10, .inl (c 1, 8, .inl (fun _ => 0))), (q11, .inl (c 1, 16, .inl (fun _ => 0))), (q12, .inl (c 0, 16384, .inl (fun _ => 0))), (q13, .inl (c 0, 64, .inl (fun _ => 0))), (q14, .inl (c 1, 16384, .inl (fun _ => 0))), (q15, .inl (c 2, 16384, .inr (.inl (fun _ => 0)))), (q16, .inl (c 0, 5, .inl (fun _ => 0))), (q17, .inl (c 0, 16, .inl (fun _ => 0)))] [(0, .ref h)] 145 [.ref q17, .ref h]
  refine x_putF hC hR.2.1 fq_X6_64 dX6_init_145 0 rfl rfl rfl (Nat.le_of_ble_eq_true rfl) _ rfl ?_
  change XW F 17 49356 [(h, .inr (6, [.ref q1, .ref q2, .ref q3, .ref q4, .ref q5, .ref q6, .ref q7, .ref q8, .ref q9, .ref q10, .ref q11, .int (nI 8), .int 0, .int 0, .int 0, .int 0, .ref q12, .ref q13, .ref q14, .int 0, .ref q15, .int 0, .ref q16, .ref q17, .null])), (q1, .inl (c 0, 7, .inl (fun _ => 0))), (q2, .inl (c 0, 14, .inl (fun _ => 0))), (q3, .inl (c 0, 14, .inl (fun _ => 0))), (q4, .inl (c 0, 14, .inl (fun _ => 0))), (q5, .inl (c 0, 8, .inl (fun _ => 0))), (q6, .inl (c 0, 8, .inl (fun _ => 0))), (q7, .inl (c 0, 8, .inl (fun _ => 0))), (q8, .inl (c 0, 6, .inl (fun _ => 0))), (q9, .inl (c 0, 16, .inl (fun _ => 0))), (q10, .inl (c 1, 8, .inl (fun _ => 0))), (q11, .inl (c 1, 16, .inl (fun _ => 0))), (q12, .inl (c 0, 16384, .inl (fun _ => 0))), (q13, .inl (c 0, 64, .inl (fun _ => 0))), (q14, .inl (c 1, 16384, .inl (fun _ => 0))), (q15, .inl (c 2, 16384, .inr (.inl (fun _ => 0)))), (q16, .inl (c 0, 5, .inl (fun _ => 0))), (q17, .inl (c 0, 16, .inl (fun _ => 0)))] [(0, .ref h)] 148 []
  refine x_aload_n hC 0 rfl dX6_init_148 ?_
  refine x_iconst hC (v := (nI 4)) dX6_init_149 rfl ?_
  refine x_newa hC (atype := .int) (ty := .int) (N := 4) (a0 := (4, .inl (fun _ => 0))) 0 rfl rfl ar_i (fun _ => rfl) (Nat.le_of_ble_eq_true rfl) (Nat.le_of_ble_eq_true rfl) dX6_init_150 (by rw [hRm]; exact Nat.le_of_ble_eq_true rfl) (by rw [hRm]; exact Nat.le_of_ble_eq_true rfl) (fun q18 => ?_)
  change XW F 18 49360 [(h, .inr (6, [.ref q1, .ref q2, .ref q3, .ref q4, .ref q5, .ref q6, .ref q7, .ref q8, .ref q9, .ref q10, .ref q11, .int (nI 8), .int 0, .int 0, .int 0, .int 0, .ref q12, .ref q13, .ref q14, .int 0, .ref q15, .int 0, .ref q16, .ref q17, .null])), (q1, .inl (c 0, 7, .inl (fun _ => 0))), (q2, .inl (c 0, 14, .inl (fun _ => 0))), (q3, .inl (c 0, 14, .inl (fun _ => 0))), (q4, .inl (c 0, 14, .inl (fun _ => 0))), (q5, .inl (c 0, 8, .inl (fun _ => 0))), (q6, .inl (c 0, 8, .inl (fun _ => 0))), (q7, .inl (c 0, 8, .inl (fun _ => 0))), (q8, .inl (c 0, 6, .inl (fun _ => 0))), (q9, .inl (c 0, 16, .inl (fun _ => 0))), (q10, .inl (c 1, 8, .inl (fun _ => 0))), (q11, .inl (c 1, 16, .inl (fun _ => 0))), (q12, .inl (c 0, 16384, .inl (fun _ => 0))), (q13, .inl (c 0, 64, .inl (fun _ => 0))), (q14, .inl (c 1, 16384, .inl (fun _ => 0))), (q15, .inl (c 2, 16384, .inr (.inl (fun _ => 0)))), (q16, .inl (c 0, 5, .inl (fun _ => 0))), (q17, .inl (c 0, 16, .inl (fun _ => 0))), (q18, .inl (c 0, 4, .inl (fun _ => 0)))] [(0, .ref h)] 152 [.ref q18, .ref h]
  refine x_putF hC hR.2.1 fq_X6_67 dX6_init_152 0 rfl rfl rfl (Nat.le_of_ble_eq_true rfl) _ rfl ?_
  change XW F 18 49360 [(h, .inr (6, [.ref q1, .ref q2, .ref q3, .ref q4, .ref q5, .ref q6, .ref q7, .ref q8, .ref q9, .ref q10, .ref q11, .int (nI 8), .int 0, .int 0, .int 0, .int 0, .ref q12, .ref q13, .ref q14, .int 0, .ref q15, .int 0, .ref q16, .ref q17, .ref q18])), (q1, .inl (c 0, 7, .inl (fun _ => 0))), (q2, .inl (c 0, 14, .inl (fun _ => 0))), (q3, .inl (c 0, 14, .inl (fun _ => 0))), (q4, .inl (c 0, 14, .inl (fun _ => 0))), (q5, .inl (c 0, 8, .inl (fun _ => 0))), (q6, .inl (c 0, 8, .inl (fun _ => 0))), (q7, .inl (c 0, 8, .inl (fun _ => 0))), (q8, .inl (c 0, 6, .inl (fun _ => 0))), (q9, .inl (c 0, 16, .inl (fun _ => 0))), (q10, .inl (c 1, 8, .inl (fun _ => 0))), (q11, .inl (c 1, 16, .inl (fun _ => 0))), (q12, .inl (c 0, 16384, .inl (fun _ => 0))), (q13, .inl (c 0, 64, .inl (fun _ => 0))), (q14, .inl (c 1, 16384, .inl (fun _ => 0))), (q15, .inl (c 2, 16384, .inr (.inl (fun _ => 0)))), (q16, .inl (c 0, 5, .inl (fun _ => 0))), (q17, .inl (c 0, 16, .inl (fun _ => 0))), (q18, .inl (c 0, 4, .inl (fun _ => 0)))] [(0, .ref h)] 155 []
  refine x_iconst hC (v := (nI 0)) dX6_init_155 rfl ?_
  refine x_istore_n hC [(1, .int (nI 0)), (0, .ref h)] rfl (lt_n hn rfl) dX6_init_156 ?_
  have loop2 : ∀ (f2 f4 : Nat → Int32), (∀ j, j < 14 → f2 j = nI 1 ∧ f4 j = nI 4) → ∀ (d i : Nat) (f9 : Nat → Int32), i + d = 16 → (∀ j, j < i → f9 j = zI (-1)) → XW F 18 49360 [(h, .inr (6, [.ref q1, .ref q2, .ref q3, .ref q4, .ref q5, .ref q6, .ref q7, .ref q8, .ref q9, .ref q10, .ref q11, .int (nI 8), .int 0, .int 0, .int 0, .int 0, .ref q12, .ref q13, .ref q14, .int 0, .ref q15, .int 0, .ref q16, .ref q17, .ref q18])), (q1, .inl (c 0, 7, .inl (fun _ => 0))), (q2, .inl (c 0, 14, .inl f2)), (q3, .inl (c 0, 14, .inl (fun _ => 0))), (q4, .inl (c 0, 14, .inl f4)), (q5, .inl (c 0, 8, .inl (fun _ => 0))), (q6, .inl (c 0, 8, .inl (fun _ => 0))), (q7, .inl (c 0, 8, .inl (fun _ => 0))), (q8, .inl (c 0, 6, .inl (fun _ => 0))), (q9, .inl (c 0, 16, .inl f9)), (q10, .inl (c 1, 8, .inl (fun _ => 0))), (q11, .inl (c 1, 16, .inl (fun _ => 0))), (q12, .inl (c 0, 16384, .inl (fun _ => 0))), (q13, .inl (c 0, 64, .inl (fun _ => 0))), (q14, .inl (c 1, 16384, .inl (fun _ => 0))), (q15, .inl (c 2, 16384, .inr (.inl (fun _ => 0)))), (q16, .inl (c 0, 5, .inl (fun _ => 0))), (q17, .inl (c 0, 16, .inl (fun _ => 0))), (q18, .inl (c 0, 4, .inl (fun _ => 0)))] [(1, .int (nI i)), (0, .ref h)] 185 [] := by
    intro f2 f4 hf d
    induction d with
    | zero =>
      intro i f9 hi h9
      refine x_iload_n hC 0 rfl dX6_init_185 ?_
      refine x_bipush hC (v := nI 16) dX6_init_186 rfl ?_
      refine x_icmp_geN hC 204 dX6_init_188 rfl (by omega) (by decide) (fun h31 => ?_) (fun h31 => ?_)
      · refine x_sub (wd' := [(h, .inr (6, [.ref q1, .ref q2, .ref q3, .ref q4, .ref q5, .ref q6, .ref q7, .ref q8, .ref q9, .ref q10, .ref q11, .int (nI 8), .int 0, .int 0, .int 0, .int 0, .ref q12, .ref q13, .ref q14, .int 0, .ref q15, .int 0, .ref q16, .ref q17, .ref q18])), (q1, .inl (c 0, 7, .inl (fun _ => 0))), (q2, .inl (c 0, 14, .inl f2)), (q3, .inl (c 0, 14, .inl (fun _ => 0))), (q4, .inl (c 0, 14, .inl f4)), (q5, .inl (c 0, 8, .inl (fun _ => 0))), (q6, .inl (c 0, 8, .inl (fun _ => 0))), (q7, .inl (c 0, 8, .inl (fun _ => 0))), (q8, .inl (c 0, 6, .inl (fun _ => 0))), (q9, .inl (c 0, 16, .inl f9)), (q10, .inl (c 1, 8, .inl (fun _ => 0))), (q11, .inl (c 1, 16, .inl (fun _ => 0))), (q12, .inl (c 0, 16384, .inl (fun _ => 0))), (q13, .inl (c 0, 64, .inl (fun _ => 0))), (q14, .inl (c 1, 16384, .inl (fun _ => 0))), (q15, .inl (c 2, 16384, .inr (.inl (fun _ => 0)))), (q16, .inl (c 0, 5, .inl (fun _ => 0))), (q17, .inl (c 0, 16, .inl (fun _ => 0))), (q18, .inl (c 0, 4, .inl (fun _ => 0)))]) [0, 1, 2, 3, 4, 5, 6, 7, 8, 9, 10, 11, 12, 13, 14, 15, 16, 17, 18] rfl rfl rfl ?_
        exact x_vretN hC hR dX6_init_204 ⟨fun k => [h, q1, q2, q3, q4, q5, q6, q7, q8, q9, q10, q11, q12, q13, q14, q15, q16, q17, q18].getD k 0, ta0 f2 f4 f9, rfl, rfl, mi0 hf (fun j hj => h9 j (by omega))⟩
      · omega
    | succ d ih =>
      intro i f9 hi h9
      refine x_iload_n hC 0 rfl dX6_init_185 ?_
      refine x_bipush hC (v := nI 16) dX6_init_186 rfl ?_
      refine x_icmp_geN hC 204 dX6_init_188 rfl (by omega) (by decide) (fun h31 => ?_) (fun h31 => ?_)
      · omega
      · skip
        change XW F 18 49360 [(h, .inr (6, [.ref q1, .ref q2, .ref q3, .ref q4, .ref q5, .ref q6, .ref q7, .ref q8, .ref q9, .ref q10, .ref q11, .int (nI 8), .int 0, .int 0, .int 0, .int 0, .ref q12, .ref q13, .ref q14, .int 0, .ref q15, .int 0, .ref q16, .ref q17, .ref q18])), (q1, .inl (c 0, 7, .inl (fun _ => 0))), (q2, .inl (c 0, 14, .inl f2)), (q3, .inl (c 0, 14, .inl (fun _ => 0))), (q4, .inl (c 0, 14, .inl f4)), (q5, .inl (c 0, 8, .inl (fun _ => 0))), (q6, .inl (c 0, 8, .inl (fun _ => 0))), (q7, .inl (c 0, 8, .inl (fun _ => 0))), (q8, .inl (c 0, 6, .inl (fun _ => 0))), (q9, .inl (c 0, 16, .inl f9)), (q10, .inl (c 1, 8, .inl (fun _ => 0))), (q11, .inl (c 1, 16, .inl (fun _ => 0))), (q12, .inl (c 0, 16384, .inl (fun _ => 0))), (q13, .inl (c 0, 64, .inl (fun _ => 0))), (q14, .inl (c 1, 16384, .inl (fun _ => 0))), (q15, .inl (c 2, 16384, .inr (.inl (fun _ => 0)))), (q16, .inl (c 0, 5, .inl (fun _ => 0))), (q17, .inl (c 0, 16, .inl (fun _ => 0))), (q18, .inl (c 0, 4, .inl (fun _ => 0)))] [(1, .int (nI i)), (0, .ref h)] 191 []
        refine x_aload_n hC 1 rfl dX6_init_191 ?_
        refine x_get hC fl_X6_34 dX6_init_192 0 rfl rfl ?_
        refine x_iload_n hC 0 rfl dX6_init_195 ?_
        refine x_iconst hC (v := (zI (-1))) dX6_init_196 rfl ?_
        refine x_iast hC 9 0 rfl rfl (j := i) (by omega) (by decide) _ rfl dX6_init_197 ?_
        change XW F 18 49360 [(h, .inr (6, [.ref q1, .ref q2, .ref q3, .ref q4, .ref q5, .ref q6, .ref q7, .ref q8, .ref q9, .ref q10, .ref q11, .int (nI 8), .int 0, .int 0, .int 0, .int 0, .ref q12, .ref q13, .ref q14, .int 0, .ref q15, .int 0, .ref q16, .ref q17, .ref q18])), (q1, .inl (c 0, 7, .inl (fun _ => 0))), (q2, .inl (c 0, 14, .inl f2)), (q3, .inl (c 0, 14, .inl (fun _ => 0))), (q4, .inl (c 0, 14, .inl f4)), (q5, .inl (c 0, 8, .inl (fun _ => 0))), (q6, .inl (c 0, 8, .inl (fun _ => 0))), (q7, .inl (c 0, 8, .inl (fun _ => 0))), (q8, .inl (c 0, 6, .inl (fun _ => 0))), (q9, .inl (c 0, 16, .inl (upd f9 i (zI (-1))))), (q10, .inl (c 1, 8, .inl (fun _ => 0))), (q11, .inl (c 1, 16, .inl (fun _ => 0))), (q12, .inl (c 0, 16384, .inl (fun _ => 0))), (q13, .inl (c 0, 64, .inl (fun _ => 0))), (q14, .inl (c 1, 16384, .inl (fun _ => 0))), (q15, .inl (c 2, 16384, .inr (.inl (fun _ => 0)))), (q16, .inl (c 0, 5, .inl (fun _ => 0))), (q17, .inl (c 0, 16, .inl (fun _ => 0))), (q18, .inl (c 0, 4, .inl (fun _ => 0)))] [(1, .int (nI i)), (0, .ref h)] 198 []
        refine x_iinc hC (z := 1) (v := nI (i + 1)) 0 rfl (nI_1 i) [(1, .int (nI (i + 1))), (0, .ref h)] rfl (lt_n hn rfl) dX6_init_198 ?_
        refine x_goto hC 185 dX6_init_201 rfl ?_
        exact ih (i + 1) _ (by omega) (fun j hj => up1 h9 hj)
  have loop : ∀ (d i : Nat) (f2 f4 : Nat → Int32), i + d = 14 → (∀ j, j < i → f2 j = nI 1 ∧ f4 j = nI 4) → XW F 18 49360 [(h, .inr (6, [.ref q1, .ref q2, .ref q3, .ref q4, .ref q5, .ref q6, .ref q7, .ref q8, .ref q9, .ref q10, .ref q11, .int (nI 8), .int 0, .int 0, .int 0, .int 0, .ref q12, .ref q13, .ref q14, .int 0, .ref q15, .int 0, .ref q16, .ref q17, .ref q18])), (q1, .inl (c 0, 7, .inl (fun _ => 0))), (q2, .inl (c 0, 14, .inl f2)), (q3, .inl (c 0, 14, .inl (fun _ => 0))), (q4, .inl (c 0, 14, .inl f4)), (q5, .inl (c 0, 8, .inl (fun _ => 0))), (q6, .inl (c 0, 8, .inl (fun _ => 0))), (q7, .inl (c 0, 8, .inl (fun _ => 0))), (q8, .inl (c 0, 6, .inl (fun _ => 0))), (q9, .inl (c 0, 16, .inl (fun _ => 0))), (q10, .inl (c 1, 8, .inl (fun _ => 0))), (q11, .inl (c 1, 16, .inl (fun _ => 0))), (q12, .inl (c 0, 16384, .inl (fun _ => 0))), (q13, .inl (c 0, 64, .inl (fun _ => 0))), (q14, .inl (c 1, 16384, .inl (fun _ => 0))), (q15, .inl (c 2, 16384, .inr (.inl (fun _ => 0)))), (q16, .inl (c 0, 5, .inl (fun _ => 0))), (q17, .inl (c 0, 16, .inl (fun _ => 0))), (q18, .inl (c 0, 4, .inl (fun _ => 0)))] [(1, .int (nI i)), (0, .ref h)] 157 [] := by
    intro d
    induction d with
    | zero =>
      intro i f2 f4 hi hf
      refine x_iload_n hC 0 rfl dX6_init_157 ?_
      refine x_bipush hC (v := nI 14) dX6_init_158 rfl ?_
      refine x_icmp_geN hC 183 dX6_init_160 rfl (by omega) (by decide) (fun h31 => ?_) (fun h31 => ?_)
      · skip
        change XW F 18 49360 [(h, .inr (6, [.ref q1, .ref q2, .ref q3, .ref q4, .ref q5, .ref q6, .ref q7, .ref q8, .ref q9, .ref q10, .ref q11, .int (nI 8), .int 0, .int 0, .int 0, .int 0, .ref q12, .ref q13, .ref q14, .int 0, .ref q15, .int 0, .ref q16, .ref q17, .ref q18])), (q1, .inl (c 0, 7, .inl (fun _ => 0))), (q2, .inl (c 0, 14, .inl f2)), (q3, .inl (c 0, 14, .inl (fun _ => 0))), (q4, .inl (c 0, 14, .inl f4)), (q5, .inl (c 0, 8, .inl (fun _ => 0))), (q6, .inl (c 0, 8, .inl (fun _ => 0))), (q7, .inl (c 0, 8, .inl (fun _ => 0))), (q8, .inl (c 0, 6, .inl (fun _ => 0))), (q9, .inl (c 0, 16, .inl (fun _ => 0))), (q10, .inl (c 1, 8, .inl (fun _ => 0))), (q11, .inl (c 1, 16, .inl (fun _ => 0))), (q12, .inl (c 0, 16384, .inl (fun _ => 0))), (q13, .inl (c 0, 64, .inl (fun _ => 0))), (q14, .inl (c 1, 16384, .inl (fun _ => 0))), (q15, .inl (c 2, 16384, .inr (.inl (fun _ => 0)))), (q16, .inl (c 0, 5, .inl (fun _ => 0))), (q17, .inl (c 0, 16, .inl (fun _ => 0))), (q18, .inl (c 0, 4, .inl (fun _ => 0)))] [(1, .int (nI i)), (0, .ref h)] 183 []
        refine x_iconst hC (v := (nI 0)) dX6_init_183 rfl ?_
        refine x_istore_n hC [(1, .int (nI 0)), (0, .ref h)] rfl (lt_n hn rfl) dX6_init_184 ?_
        exact loop2 f2 f4 (fun j hj => hf j (by omega)) 16 0 _ rfl (fun j hj => absurd hj (Nat.not_lt_zero j))
      · omega
    | succ d ih =>
      intro i f2 f4 hi hf
      refine x_iload_n hC 0 rfl dX6_init_157 ?_
      refine x_bipush hC (v := nI 14) dX6_init_158 rfl ?_
      refine x_icmp_geN hC 183 dX6_init_160 rfl (by omega) (by decide) (fun h31 => ?_) (fun h31 => ?_)
      · omega
      · skip
        change XW F 18 49360 [(h, .inr (6, [.ref q1, .ref q2, .ref q3, .ref q4, .ref q5, .ref q6, .ref q7, .ref q8, .ref q9, .ref q10, .ref q11, .int (nI 8), .int 0, .int 0, .int 0, .int 0, .ref q12, .ref q13, .ref q14, .int 0, .ref q15, .int 0, .ref q16, .ref q17, .ref q18])), (q1, .inl (c 0, 7, .inl (fun _ => 0))), (q2, .inl (c 0, 14, .inl f2)), (q3, .inl (c 0, 14, .inl (fun _ => 0))), (q4, .inl (c 0, 14, .inl f4)), (q5, .inl (c 0, 8, .inl (fun _ => 0))), (q6, .inl (c 0, 8, .inl (fun _ => 0))), (q7, .inl (c 0, 8, .inl (fun _ => 0))), (q8, .inl (c 0, 6, .inl (fun _ => 0))), (q9, .inl (c 0, 16, .inl (fun _ => 0))), (q10, .inl (c 1, 8, .inl (fun _ => 0))), (q11, .inl (c 1, 16, .inl (fun _ => 0))), (q12, .inl (c 0, 16384, .inl (fun _ => 0))), (q13, .inl (c 0, 64, .inl (fun _ => 0))), (q14, .inl (c 1, 16384, .inl (fun _ => 0))), (q15, .inl (c 2, 16384, .inr (.inl (fun _ => 0)))), (q16, .inl (c 0, 5, .inl (fun _ => 0))), (q17, .inl (c 0, 16, .inl (fun _ => 0))), (q18, .inl (c 0, 4, .inl (fun _ => 0)))] [(1, .int (nI i)), (0, .ref h)] 163 []
        refine x_aload_n hC 1 rfl dX6_init_163 ?_
        refine x_get hC fl_X6_13 dX6_init_164 0 rfl rfl ?_
        refine x_iload_n hC 0 rfl dX6_init_167 ?_
        refine x_iconst hC (v := (nI 1)) dX6_init_168 rfl ?_
        refine x_iast hC 2 0 rfl rfl (j := i) (by omega) (by decide) _ rfl dX6_init_169 ?_
        change XW F 18 49360 [(h, .inr (6, [.ref q1, .ref q2, .ref q3, .ref q4, .ref q5, .ref q6, .ref q7, .ref q8, .ref q9, .ref q10, .ref q11, .int (nI 8), .int 0, .int 0, .int 0, .int 0, .ref q12, .ref q13, .ref q14, .int 0, .ref q15, .int 0, .ref q16, .ref q17, .ref q18])), (q1, .inl (c 0, 7, .inl (fun _ => 0))), (q2, .inl (c 0, 14, .inl (upd f2 i (nI 1)))), (q3, .inl (c 0, 14, .inl (fun _ => 0))), (q4, .inl (c 0, 14, .inl f4)), (q5, .inl (c 0, 8, .inl (fun _ => 0))), (q6, .inl (c 0, 8, .inl (fun _ => 0))), (q7, .inl (c 0, 8, .inl (fun _ => 0))), (q8, .inl (c 0, 6, .inl (fun _ => 0))), (q9, .inl (c 0, 16, .inl (fun _ => 0))), (q10, .inl (c 1, 8, .inl (fun _ => 0))), (q11, .inl (c 1, 16, .inl (fun _ => 0))), (q12, .inl (c 0, 16384, .inl (fun _ => 0))), (q13, .inl (c 0, 64, .inl (fun _ => 0))), (q14, .inl (c 1, 16384, .inl (fun _ => 0))), (q15, .inl (c 2, 16384, .inr (.inl (fun _ => 0)))), (q16, .inl (c 0, 5, .inl (fun _ => 0))), (q17, .inl (c 0, 16, .inl (fun _ => 0))), (q18, .inl (c 0, 4, .inl (fun _ => 0)))] [(1, .int (nI i)), (0, .ref h)] 170 []
        refine x_aload_n hC 1 rfl dX6_init_170 ?_
        refine x_get hC fl_X6_19 dX6_init_171 0 rfl rfl ?_
        refine x_iload_n hC 0 rfl dX6_init_174 ?_
        refine x_iconst hC (v := (nI 4)) dX6_init_175 rfl ?_
        refine x_iast hC 4 0 rfl rfl (j := i) (by omega) (by decide) _ rfl dX6_init_176 ?_
        change XW F 18 49360 [(h, .inr (6, [.ref q1, .ref q2, .ref q3, .ref q4, .ref q5, .ref q6, .ref q7, .ref q8, .ref q9, .ref q10, .ref q11, .int (nI 8), .int 0, .int 0, .int 0, .int 0, .ref q12, .ref q13, .ref q14, .int 0, .ref q15, .int 0, .ref q16, .ref q17, .ref q18])), (q1, .inl (c 0, 7, .inl (fun _ => 0))), (q2, .inl (c 0, 14, .inl (upd f2 i (nI 1)))), (q3, .inl (c 0, 14, .inl (fun _ => 0))), (q4, .inl (c 0, 14, .inl (upd f4 i (nI 4)))), (q5, .inl (c 0, 8, .inl (fun _ => 0))), (q6, .inl (c 0, 8, .inl (fun _ => 0))), (q7, .inl (c 0, 8, .inl (fun _ => 0))), (q8, .inl (c 0, 6, .inl (fun _ => 0))), (q9, .inl (c 0, 16, .inl (fun _ => 0))), (q10, .inl (c 1, 8, .inl (fun _ => 0))), (q11, .inl (c 1, 16, .inl (fun _ => 0))), (q12, .inl (c 0, 16384, .inl (fun _ => 0))), (q13, .inl (c 0, 64, .inl (fun _ => 0))), (q14, .inl (c 1, 16384, .inl (fun _ => 0))), (q15, .inl (c 2, 16384, .inr (.inl (fun _ => 0)))), (q16, .inl (c 0, 5, .inl (fun _ => 0))), (q17, .inl (c 0, 16, .inl (fun _ => 0))), (q18, .inl (c 0, 4, .inl (fun _ => 0)))] [(1, .int (nI i)), (0, .ref h)] 177 []
        refine x_iinc hC (z := 1) (v := nI (i + 1)) 0 rfl (nI_1 i) [(1, .int (nI (i + 1))), (0, .ref h)] rfl (lt_n hn rfl) dX6_init_177 ?_
        refine x_goto hC 157 dX6_init_180 rfl ?_
        exact ih (i + 1) _ _ (by omega) (fun j hj => up2 hf hj)
  exact loop 14 0 _ _ rfl (fun j hj => absurd hj (Nat.not_lt_zero j))
