theorem i32_gt0 {v : Nat} (h0 : 0 < v) (hv : v < 2147483648) : (0 : Int32) < nI v := by rw [i32_lt, i32_0, nI_toI hv]; omega
def nlzf (v : Nat) : Nat :=
  let a0 := 31
  let a1 := if 256 ≤ v then a0 - 8 else a0
  let v1 := if 256 ≤ v then v / 2 ^ 8 else v
  let a2 := if 16 ≤ v1 then a1 - 4 else a1
  let v2 := if 16 ≤ v1 then v1 / 2 ^ 4 else v1
  let a3 := if 4 ≤ v2 then a2 - 2 else a2
  let v3 := if 4 ≤ v2 then v2 / 2 ^ 2 else v2
  a3 - v3 / 2 ^ 1
theorem nlz_all : allN (fun a => allN (fun b => (a * 128 + b == 0) || nlzf (a * 128 + b) == 31 - Nat.log2 (a * 128 + b)) 128) 128 = true := by decide +kernel
theorem nlz_ok {v : Nat} (h0 : 0 < v) (h : v < 16384) : nlzf v = 31 - Nat.log2 v := by
  have h1 := allN_iff.mp (allN_iff.mp nlz_all (v / 128) (by omega)) (v % 128) (by omega)
  have h2 : v / 128 * 128 + v % 128 = v := by omega
  rw [h2] at h1
  rcases Bool.or_eq_true _ _ ▸ h1 with q | q
  · have := eq_of_beq q; omega
  · exact eq_of_beq q
theorem nI_dec {a b : Nat} (h : b ≤ a) : nI a + Int32.ofInt (-(b : Int)) = nI (a - b) := by
  show zI (a : Int) + zI (-(b : Int)) = zI ((a - b : Nat) : Int)
  rw [zI_add]
  congr 1
  omega
theorem log2_lt {v k : Nat} (h0 : 0 < v) (h : v < 2 ^ k) : Nat.log2 v < k := (Nat.log2_lt (by omega)).mpr h
theorem hob_sh {v : Nat} (h0 : 0 < v) (hv : v < 16384) : ((nI 2147483648).toUInt32 >>> ((nI (31 - Nat.log2 v)).toUInt32 &&& Int32.toUInt32 31)).toInt32 = nI (2 ^ Nat.log2 v) := by
  have h1 : Nat.log2 v < 14 := log2_lt h0 hv
  rw [nI_ushr (by decide) (by omega)]
  have h2 : 2147483648 = 2 ^ Nat.log2 v * 2 ^ (31 - Nat.log2 v) := by rw [← Nat.pow_add, show Nat.log2 v + (31 - Nat.log2 v) = 31 by omega]
  rw [h2, Nat.mul_div_cancel _ (Nat.two_pow_pos _)]
theorem hob_and {v : Nat} (h0 : 0 < v) : v &&& 2 ^ Nat.log2 v = 2 ^ Nat.log2 v := by
  apply Nat.eq_of_testBit_eq
  intro i
  rw [Nat.testBit_and, Nat.testBit_two_pow]
  by_cases h : Nat.log2 v = i
  · subst h
    simp [Nat.testBit_log2 (show v ≠ 0 by omega)]
  · simp [h]
theorem nI_andc2 (a m : Nat) : (nI m ^^^ (-1)) &&& nI a = nI (nd a m) := by rw [Int32.and_comm]; exact nI_andc a m

set_option maxHeartbeats 4000000 in
set_option maxRecDepth 100000 in
theorem c_J6_bitCount_0f7a4 {l : Launch} {D : va_G} {c : Nat → ClassId} {w : Nat} (hw : w < 16384) : KI l D (tyE c) w0 yJ6_bitCount_0f7a4 cJ6_bitCount_0f7a4 1 .int (rmL 1) [.int (nI w)] () (fun r u => r = nI (pc w) ∧ u = ()) := by
  refine x_enterI (by decide) (Nat.le_of_ble_eq_true rfl) (fun F hl hD hn hRm hC hR => ?_)
  subst hl hD
  change XW F 0 0 (w0 ()) [(0, .int (nI w))] 0 []
  change FC F cJ6_bitCount_0f7a4 RJ6 (tyE c) at hC
  refine x_iload_n hC 0 rfl dJ6_bitCount_0f7a4_0 ?_
  refine x_iload_n hC 0 rfl dJ6_bitCount_0f7a4_1 ?_
  refine x_iconst hC (v := (nI 1)) dJ6_bitCount_0f7a4_2 rfl ?_
  refine x_iushr hC (v := (nI (w / 2 ^ 1))) (nI_ushr (by omega) (by decide)) dJ6_bitCount_0f7a4_3 ?_
  refine x_ldcw hC cn_J6_265 dJ6_bitCount_0f7a4_4 ?_
  refine x_top (show (1431655765 : Int32) = (nI 1431655765) from rfl) ?_
  refine x_iandE hC (z := (nI ((w / 2 ^ 1) &&& 1431655765))) (nI_and _ _) dJ6_bitCount_0f7a4_7 ?_
  refine x_isubE hC (z := (nI (w - ((w / 2 ^ 1) &&& 1431655765)))) (pk_sub (Nat.le_trans Nat.and_le_left (Nat.div_le_self _ _))) dJ6_bitCount_0f7a4_8 ?_
  obtain ⟨x1, e_x1⟩ : ∃ z : Nat, z = (w - ((w / 2 ^ 1) &&& 1431655765)) := ⟨_, rfl⟩
  refine x_top (show (nI (w - ((w / 2 ^ 1) &&& 1431655765))) = nI x1 by rw [e_x1]) ?_
  have b1 : x1 ≤ w := by rw [e_x1]; exact Nat.sub_le _ _
  refine x_istore_n hC [(0, .int (nI x1))] rfl (lt_n hn rfl) dJ6_bitCount_0f7a4_9 ?_
  refine x_iload_n hC 0 rfl dJ6_bitCount_0f7a4_10 ?_
  refine x_ldcw hC cn_J6_266 dJ6_bitCount_0f7a4_11 ?_
  refine x_top (show (858993459 : Int32) = (nI 858993459) from rfl) ?_
  refine x_iandE hC (z := (nI (x1 &&& 858993459))) (nI_and _ _) dJ6_bitCount_0f7a4_14 ?_
  refine x_iload_n hC 0 rfl dJ6_bitCount_0f7a4_15 ?_
  refine x_iconst hC (v := (nI 2)) dJ6_bitCount_0f7a4_16 rfl ?_
  refine x_iushr hC (v := (nI (x1 / 2 ^ 2))) (nI_ushr (by omega) (by decide)) dJ6_bitCount_0f7a4_17 ?_
  refine x_ldcw hC cn_J6_266 dJ6_bitCount_0f7a4_18 ?_
  refine x_top (show (858993459 : Int32) = (nI 858993459) from rfl) ?_
  refine x_iandE hC (z := (nI ((x1 / 2 ^ 2) &&& 858993459))) (nI_and _ _) dJ6_bitCount_0f7a4_21 ?_
  refine x_iaddE hC (z := (nI ((x1 &&& 858993459) + ((x1 / 2 ^ 2) &&& 858993459)))) (nI_add _ _) dJ6_bitCount_0f7a4_22 ?_
  obtain ⟨x2, e_x2⟩ : ∃ z : Nat, z = ((x1 &&& 858993459) + ((x1 / 2 ^ 2) &&& 858993459)) := ⟨_, rfl⟩
  refine x_top (show (nI ((x1 &&& 858993459) + ((x1 / 2 ^ 2) &&& 858993459))) = nI x2 by rw [e_x2]) ?_
  have b2 : x2 ≤ 2 * w := by
    have q1 := Nat.and_le_left (n := x1) (m := 858993459)
    have q2 := Nat.and_le_left (n := x1 / 2 ^ 2) (m := 858993459)
    rw [e_x2]; omega
  refine x_istore_n hC [(0, .int (nI x2))] rfl (lt_n hn rfl) dJ6_bitCount_0f7a4_23 ?_
  refine x_iload_n hC 0 rfl dJ6_bitCount_0f7a4_24 ?_
  refine x_iload_n hC 0 rfl dJ6_bitCount_0f7a4_25 ?_
  refine x_iconst hC (v := (nI 4)) dJ6_bitCount_0f7a4_26 rfl ?_
  refine x_iushr hC (v := (nI (x2 / 2 ^ 4))) (nI_ushr (by omega) (by decide)) dJ6_bitCount_0f7a4_27 ?_
  refine x_iaddE hC (z := (nI (x2 + (x2 / 2 ^ 4)))) (nI_add _ _) dJ6_bitCount_0f7a4_28 ?_
  refine x_ldcw hC cn_J6_267 dJ6_bitCount_0f7a4_29 ?_
  refine x_top (show (252645135 : Int32) = (nI 252645135) from rfl) ?_
  refine x_iandE hC (z := (nI ((x2 + (x2 / 2 ^ 4)) &&& 252645135))) (nI_and _ _) dJ6_bitCount_0f7a4_32 ?_
  obtain ⟨x3, e_x3⟩ : ∃ z : Nat, z = ((x2 + (x2 / 2 ^ 4)) &&& 252645135) := ⟨_, rfl⟩
  refine x_top (show (nI ((x2 + (x2 / 2 ^ 4)) &&& 252645135)) = nI x3 by rw [e_x3]) ?_
  have b3 : x3 ≤ 4 * w := by
    have q1 := Nat.and_le_left (n := x2 + x2 / 2 ^ 4) (m := 252645135)
    rw [e_x3]; omega
  refine x_istore_n hC [(0, .int (nI x3))] rfl (lt_n hn rfl) dJ6_bitCount_0f7a4_33 ?_
  refine x_iload_n hC 0 rfl dJ6_bitCount_0f7a4_34 ?_
  refine x_iload_n hC 0 rfl dJ6_bitCount_0f7a4_35 ?_
  refine x_bipush hC (v := (nI 8)) dJ6_bitCount_0f7a4_36 rfl ?_
  refine x_iushr hC (v := (nI (x3 / 2 ^ 8))) (nI_ushr (by omega) (by decide)) dJ6_bitCount_0f7a4_38 ?_
  refine x_iaddE hC (z := (nI (x3 + (x3 / 2 ^ 8)))) (nI_add _ _) dJ6_bitCount_0f7a4_39 ?_
  obtain ⟨x4, e_x4⟩ : ∃ z : Nat, z = (x3 + (x3 / 2 ^ 8)) := ⟨_, rfl⟩
  refine x_top (show (nI (x3 + (x3 / 2 ^ 8))) = nI x4 by rw [e_x4]) ?_
  have b4 : x4 ≤ 8 * w := by rw [e_x4]; omega
  refine x_istore_n hC [(0, .int (nI x4))] rfl (lt_n hn rfl) dJ6_bitCount_0f7a4_40 ?_
  refine x_iload_n hC 0 rfl dJ6_bitCount_0f7a4_41 ?_
  refine x_iload_n hC 0 rfl dJ6_bitCount_0f7a4_42 ?_
  refine x_bipush hC (v := (nI 16)) dJ6_bitCount_0f7a4_43 rfl ?_
  refine x_iushr hC (v := (nI (x4 / 2 ^ 16))) (nI_ushr (by omega) (by decide)) dJ6_bitCount_0f7a4_45 ?_
  refine x_iaddE hC (z := (nI (x4 + (x4 / 2 ^ 16)))) (nI_add _ _) dJ6_bitCount_0f7a4_46 ?_
  obtain ⟨x5, e_x5⟩ : ∃ z : Nat, z = (x4 + (x4 / 2 ^ 16)) := ⟨_, rfl⟩
  refine x_top (show (nI (x4 + (x4 / 2 ^ 16))) = nI x5 by rw [e_x5]) ?_
  refine x_istore_n hC [(0, .int (nI x5))] rfl (lt_n hn rfl) dJ6_bitCount_0f7a4_47 ?_
  refine x_iload_n hC 0 rfl dJ6_bitCount_0f7a4_48 ?_
  refine x_bipush hC (v := (nI 63)) dJ6_bitCount_0f7a4_49 rfl ?_
  refine x_iandE hC (z := (nI (x5 &&& 63))) (nI_and _ _) dJ6_bitCount_0f7a4_51 ?_
  exact x_iret hC hR dJ6_bitCount_0f7a4_52 (⟨by rw [← bcf_pc hw, e_x5, e_x4, e_x3, e_x2, e_x1]; rfl, rfl⟩)
set_option maxHeartbeats 4000000 in
set_option maxRecDepth 100000 in
theorem c_J6_numberOfLeadingZeros_0f7a4 {l : Launch} {D : va_G} {c : Nat → ClassId} {v : Nat} (h0 : 0 < v) (hv : v < 16384) : KI l D (tyE c) w0 yJ6_numberOfLeadingZeros_0f7a4 cJ6_numberOfLeadingZeros_0f7a4 2 .int (rmL 1) [.int (nI v)] () (fun r u => r = nI (31 - Nat.log2 v) ∧ u = ()) := by
  refine x_enterI (by decide) (Nat.le_of_ble_eq_true rfl) (fun F hl hD hn hRm hC hR => ?_)
  subst hl hD
  change XW F 0 0 (w0 ()) [(0, .int (nI v))] 0 []
  change FC F cJ6_numberOfLeadingZeros_0f7a4 RJ6 (tyE c) at hC
  refine x_iload_n hC 0 rfl dJ6_numberOfLeadingZeros_0f7a4_0 ?_
  refine x_if_gtN hC 15 dJ6_numberOfLeadingZeros_0f7a4_1 rfl (by omega) (fun h1 => ?_) (fun h1 => ?_)
  · -- 1 T
    refine x_bipush hC (v := (nI 31)) dJ6_numberOfLeadingZeros_0f7a4_15 rfl ?_
    refine x_istore_n hC [(1, .int (nI 31)), (0, .int (nI v))] rfl (lt_n hn rfl) dJ6_numberOfLeadingZeros_0f7a4_17 ?_
    refine x_iload_n hC 1 rfl dJ6_numberOfLeadingZeros_0f7a4_18 ?_
    refine x_ldcw hC cn_J6_264 dJ6_numberOfLeadingZeros_0f7a4_19 ?_
    refine x_top (show (65536 : Int32) = (nI 65536) from rfl) ?_
    refine x_icmp_ltN hC 33 dJ6_numberOfLeadingZeros_0f7a4_22 rfl (by omega) (by decide) (fun h22 => ?_) (fun h22 => ?_)
    · -- 22 T
      refine x_iload_n hC 1 rfl dJ6_numberOfLeadingZeros_0f7a4_33 ?_
      refine x_sipush hC (v := (nI 256)) dJ6_numberOfLeadingZeros_0f7a4_34 rfl ?_
      refine x_icmp_ltN hC 48 dJ6_numberOfLeadingZeros_0f7a4_37 rfl (by omega) (by decide) (fun h37 => ?_) (fun h37 => ?_)
      · -- 37 T
        refine x_iload_n hC 1 rfl dJ6_numberOfLeadingZeros_0f7a4_48 ?_
        refine x_bipush hC (v := (nI 16)) dJ6_numberOfLeadingZeros_0f7a4_49 rfl ?_
        refine x_icmp_ltN hC 61 dJ6_numberOfLeadingZeros_0f7a4_51 rfl (by omega) (by decide) (fun h51 => ?_) (fun h51 => ?_)
        · -- 51 T
          refine x_iload_n hC 1 rfl dJ6_numberOfLeadingZeros_0f7a4_61 ?_
          refine x_iconst hC (v := (nI 4)) dJ6_numberOfLeadingZeros_0f7a4_62 rfl ?_
          refine x_icmp_ltN hC 73 dJ6_numberOfLeadingZeros_0f7a4_63 rfl (by omega) (by decide) (fun h63 => ?_) (fun h63 => ?_)
          · -- 63 T
            refine x_iload_n hC 0 rfl dJ6_numberOfLeadingZeros_0f7a4_73 ?_
            refine x_iload_n hC 1 rfl dJ6_numberOfLeadingZeros_0f7a4_74 ?_
            refine x_iconst hC (v := (nI 1)) dJ6_numberOfLeadingZeros_0f7a4_75 rfl ?_
            refine x_iushr hC (v := (nI (v / 2 ^ 1))) (nI_ushr (by omega) (by decide)) dJ6_numberOfLeadingZeros_0f7a4_76 ?_
            refine x_isubE hC (z := (nI (31 - (v / 2 ^ 1)))) (pk_sub (by omega)) dJ6_numberOfLeadingZeros_0f7a4_77 ?_
            exact x_iret hC hR dJ6_numberOfLeadingZeros_0f7a4_78 (⟨congrArg nI (by rw [← nlz_ok h0 hv]; unfold nlzf; dsimp only; (repeat' split) <;> omega), rfl⟩)
          · -- 63 F
            refine x_iinc hC (z := -2) (v := (nI 29)) 0 rfl (by decide) [(1, .int (nI 29)), (0, .int (nI v))] rfl (lt_n hn rfl) dJ6_numberOfLeadingZeros_0f7a4_66 ?_
            refine x_iload_n hC 1 rfl dJ6_numberOfLeadingZeros_0f7a4_69 ?_
            refine x_iconst hC (v := (nI 2)) dJ6_numberOfLeadingZeros_0f7a4_70 rfl ?_
            refine x_iushr hC (v := (nI (v / 2 ^ 2))) (nI_ushr (by omega) (by decide)) dJ6_numberOfLeadingZeros_0f7a4_71 ?_
            refine x_istore_n hC [(0, .int (nI (v / 2 ^ 2))), (1, .int (nI 29))] rfl (lt_n hn rfl) dJ6_numberOfLeadingZeros_0f7a4_72 ?_
            refine x_iload_n hC 1 rfl dJ6_numberOfLeadingZeros_0f7a4_73 ?_
            refine x_iload_n hC 0 rfl dJ6_numberOfLeadingZeros_0f7a4_74 ?_
            refine x_iconst hC (v := (nI 1)) dJ6_numberOfLeadingZeros_0f7a4_75 rfl ?_
            refine x_iushr hC (v := (nI ((v / 2 ^ 2) / 2 ^ 1))) (nI_ushr (by omega) (by decide)) dJ6_numberOfLeadingZeros_0f7a4_76 ?_
            refine x_isubE hC (z := (nI (29 - ((v / 2 ^ 2) / 2 ^ 1)))) (pk_sub (by omega)) dJ6_numberOfLeadingZeros_0f7a4_77 ?_
            exact x_iret hC hR dJ6_numberOfLeadingZeros_0f7a4_78 (⟨congrArg nI (by rw [← nlz_ok h0 hv]; unfold nlzf; dsimp only; (repeat' split) <;> omega), rfl⟩)
        · -- 51 F
          refine x_iinc hC (z := -4) (v := (nI 27)) 0 rfl (by decide) [(1, .int (nI 27)), (0, .int (nI v))] rfl (lt_n hn rfl) dJ6_numberOfLeadingZeros_0f7a4_54 ?_
          refine x_iload_n hC 1 rfl dJ6_numberOfLeadingZeros_0f7a4_57 ?_
          refine x_iconst hC (v := (nI 4)) dJ6_numberOfLeadingZeros_0f7a4_58 rfl ?_
          refine x_iushr hC (v := (nI (v / 2 ^ 4))) (nI_ushr (by omega) (by decide)) dJ6_numberOfLeadingZeros_0f7a4_59 ?_
          refine x_istore_n hC [(0, .int (nI (v / 2 ^ 4))), (1, .int (nI 27))] rfl (lt_n hn rfl) dJ6_numberOfLeadingZeros_0f7a4_60 ?_
          refine x_iload_n hC 0 rfl dJ6_numberOfLeadingZeros_0f7a4_61 ?_
          refine x_iconst hC (v := (nI 4)) dJ6_numberOfLeadingZeros_0f7a4_62 rfl ?_
          refine x_icmp_ltN hC 73 dJ6_numberOfLeadingZeros_0f7a4_63 rfl (by omega) (by decide) (fun h63 => ?_) (fun h63 => ?_)
          · -- 63 T
            refine x_iload_n hC 1 rfl dJ6_numberOfLeadingZeros_0f7a4_73 ?_
            refine x_iload_n hC 0 rfl dJ6_numberOfLeadingZeros_0f7a4_74 ?_
            refine x_iconst hC (v := (nI 1)) dJ6_numberOfLeadingZeros_0f7a4_75 rfl ?_
            refine x_iushr hC (v := (nI ((v / 2 ^ 4) / 2 ^ 1))) (nI_ushr (by omega) (by decide)) dJ6_numberOfLeadingZeros_0f7a4_76 ?_
            refine x_isubE hC (z := (nI (27 - ((v / 2 ^ 4) / 2 ^ 1)))) (pk_sub (by omega)) dJ6_numberOfLeadingZeros_0f7a4_77 ?_
            exact x_iret hC hR dJ6_numberOfLeadingZeros_0f7a4_78 (⟨congrArg nI (by rw [← nlz_ok h0 hv]; unfold nlzf; dsimp only; (repeat' split) <;> omega), rfl⟩)
          · -- 63 F
            refine x_iinc hC (z := -2) (v := (nI 25)) 1 rfl (by decide) [(1, .int (nI 25)), (0, .int (nI (v / 2 ^ 4)))] rfl (lt_n hn rfl) dJ6_numberOfLeadingZeros_0f7a4_66 ?_
            refine x_iload_n hC 1 rfl dJ6_numberOfLeadingZeros_0f7a4_69 ?_
            refine x_iconst hC (v := (nI 2)) dJ6_numberOfLeadingZeros_0f7a4_70 rfl ?_
            refine x_iushr hC (v := (nI ((v / 2 ^ 4) / 2 ^ 2))) (nI_ushr (by omega) (by decide)) dJ6_numberOfLeadingZeros_0f7a4_71 ?_
            refine x_istore_n hC [(0, .int (nI ((v / 2 ^ 4) / 2 ^ 2))), (1, .int (nI 25))] rfl (lt_n hn rfl) dJ6_numberOfLeadingZeros_0f7a4_72 ?_
            refine x_iload_n hC 1 rfl dJ6_numberOfLeadingZeros_0f7a4_73 ?_
            refine x_iload_n hC 0 rfl dJ6_numberOfLeadingZeros_0f7a4_74 ?_
            refine x_iconst hC (v := (nI 1)) dJ6_numberOfLeadingZeros_0f7a4_75 rfl ?_
            refine x_iushr hC (v := (nI (((v / 2 ^ 4) / 2 ^ 2) / 2 ^ 1))) (nI_ushr (by omega) (by decide)) dJ6_numberOfLeadingZeros_0f7a4_76 ?_
            refine x_isubE hC (z := (nI (25 - (((v / 2 ^ 4) / 2 ^ 2) / 2 ^ 1)))) (pk_sub (by omega)) dJ6_numberOfLeadingZeros_0f7a4_77 ?_
            exact x_iret hC hR dJ6_numberOfLeadingZeros_0f7a4_78 (⟨congrArg nI (by rw [← nlz_ok h0 hv]; unfold nlzf; dsimp only; (repeat' split) <;> omega), rfl⟩)
      · -- 37 F
        refine x_iinc hC (z := -8) (v := (nI 23)) 0 rfl (by decide) [(1, .int (nI 23)), (0, .int (nI v))] rfl (lt_n hn rfl) dJ6_numberOfLeadingZeros_0f7a4_40 ?_
        refine x_iload_n hC 1 rfl dJ6_numberOfLeadingZeros_0f7a4_43 ?_
        refine x_bipush hC (v := (nI 8)) dJ6_numberOfLeadingZeros_0f7a4_44 rfl ?_
        refine x_iushr hC (v := (nI (v / 2 ^ 8))) (nI_ushr (by omega) (by decide)) dJ6_numberOfLeadingZeros_0f7a4_46 ?_
        refine x_istore_n hC [(0, .int (nI (v / 2 ^ 8))), (1, .int (nI 23))] rfl (lt_n hn rfl) dJ6_numberOfLeadingZeros_0f7a4_47 ?_
        refine x_iload_n hC 0 rfl dJ6_numberOfLeadingZeros_0f7a4_48 ?_
        refine x_bipush hC (v := (nI 16)) dJ6_numberOfLeadingZeros_0f7a4_49 rfl ?_
        refine x_icmp_ltN hC 61 dJ6_numberOfLeadingZeros_0f7a4_51 rfl (by omega) (by decide) (fun h51 => ?_) (fun h51 => ?_)
        · -- 51 T
          refine x_iload_n hC 0 rfl dJ6_numberOfLeadingZeros_0f7a4_61 ?_
          refine x_iconst hC (v := (nI 4)) dJ6_numberOfLeadingZeros_0f7a4_62 rfl ?_
          refine x_icmp_ltN hC 73 dJ6_numberOfLeadingZeros_0f7a4_63 rfl (by omega) (by decide) (fun h63 => ?_) (fun h63 => ?_)
          · -- 63 T
            refine x_iload_n hC 1 rfl dJ6_numberOfLeadingZeros_0f7a4_73 ?_
            refine x_iload_n hC 0 rfl dJ6_numberOfLeadingZeros_0f7a4_74 ?_
            refine x_iconst hC (v := (nI 1)) dJ6_numberOfLeadingZeros_0f7a4_75 rfl ?_
            refine x_iushr hC (v := (nI ((v / 2 ^ 8) / 2 ^ 1))) (nI_ushr (by omega) (by decide)) dJ6_numberOfLeadingZeros_0f7a4_76 ?_
            refine x_isubE hC (z := (nI (23 - ((v / 2 ^ 8) / 2 ^ 1)))) (pk_sub (by omega)) dJ6_numberOfLeadingZeros_0f7a4_77 ?_
            exact x_iret hC hR dJ6_numberOfLeadingZeros_0f7a4_78 (⟨congrArg nI (by rw [← nlz_ok h0 hv]; unfold nlzf; dsimp only; (repeat' split) <;> omega), rfl⟩)
          · -- 63 F
            refine x_iinc hC (z := -2) (v := (nI 21)) 1 rfl (by decide) [(1, .int (nI 21)), (0, .int (nI (v / 2 ^ 8)))] rfl (lt_n hn rfl) dJ6_numberOfLeadingZeros_0f7a4_66 ?_
            refine x_iload_n hC 1 rfl dJ6_numberOfLeadingZeros_0f7a4_69 ?_
            refine x_iconst hC (v := (nI 2)) dJ6_numberOfLeadingZeros_0f7a4_70 rfl ?_
            refine x_iushr hC (v := (nI ((v / 2 ^ 8) / 2 ^ 2))) (nI_ushr (by omega) (by decide)) dJ6_numberOfLeadingZeros_0f7a4_71 ?_
            refine x_istore_n hC [(0, .int (nI ((v / 2 ^ 8) / 2 ^ 2))), (1, .int (nI 21))] rfl (lt_n hn rfl) dJ6_numberOfLeadingZeros_0f7a4_72 ?_
            refine x_iload_n hC 1 rfl dJ6_numberOfLeadingZeros_0f7a4_73 ?_
            refine x_iload_n hC 0 rfl dJ6_numberOfLeadingZeros_0f7a4_74 ?_
            refine x_iconst hC (v := (nI 1)) dJ6_numberOfLeadingZeros_0f7a4_75 rfl ?_
            refine x_iushr hC (v := (nI (((v / 2 ^ 8) / 2 ^ 2) / 2 ^ 1))) (nI_ushr (by omega) (by decide)) dJ6_numberOfLeadingZeros_0f7a4_76 ?_
            refine x_isubE hC (z := (nI (21 - (((v / 2 ^ 8) / 2 ^ 2) / 2 ^ 1)))) (pk_sub (by omega)) dJ6_numberOfLeadingZeros_0f7a4_77 ?_
            exact x_iret hC hR dJ6_numberOfLeadingZeros_0f7a4_78 (⟨congrArg nI (by rw [← nlz_ok h0 hv]; unfold nlzf; dsimp only; (repeat' split) <;> omega), rfl⟩)
        · -- 51 F
          refine x_iinc hC (z := -4) (v := (nI 19)) 1 rfl (by decide) [(1, .int (nI 19)), (0, .int (nI (v / 2 ^ 8)))] rfl (lt_n hn rfl) dJ6_numberOfLeadingZeros_0f7a4_54 ?_
          refine x_iload_n hC 1 rfl dJ6_numberOfLeadingZeros_0f7a4_57 ?_
          refine x_iconst hC (v := (nI 4)) dJ6_numberOfLeadingZeros_0f7a4_58 rfl ?_
          refine x_iushr hC (v := (nI ((v / 2 ^ 8) / 2 ^ 4))) (nI_ushr (by omega) (by decide)) dJ6_numberOfLeadingZeros_0f7a4_59 ?_
          refine x_istore_n hC [(0, .int (nI ((v / 2 ^ 8) / 2 ^ 4))), (1, .int (nI 19))] rfl (lt_n hn rfl) dJ6_numberOfLeadingZeros_0f7a4_60 ?_
          refine x_iload_n hC 0 rfl dJ6_numberOfLeadingZeros_0f7a4_61 ?_
          refine x_iconst hC (v := (nI 4)) dJ6_numberOfLeadingZeros_0f7a4_62 rfl ?_
          refine x_icmp_ltN hC 73 dJ6_numberOfLeadingZeros_0f7a4_63 rfl (by omega) (by decide) (fun h63 => ?_) (fun h63 => ?_)
          · -- 63 T
            refine x_iload_n hC 1 rfl dJ6_numberOfLeadingZeros_0f7a4_73 ?_
            refine x_iload_n hC 0 rfl dJ6_numberOfLeadingZeros_0f7a4_74 ?_
            refine x_iconst hC (v := (nI 1)) dJ6_numberOfLeadingZeros_0f7a4_75 rfl ?_
            refine x_iushr hC (v := (nI (((v / 2 ^ 8) / 2 ^ 4) / 2 ^ 1))) (nI_ushr (by omega) (by decide)) dJ6_numberOfLeadingZeros_0f7a4_76 ?_
            refine x_isubE hC (z := (nI (19 - (((v / 2 ^ 8) / 2 ^ 4) / 2 ^ 1)))) (pk_sub (by omega)) dJ6_numberOfLeadingZeros_0f7a4_77 ?_
            exact x_iret hC hR dJ6_numberOfLeadingZeros_0f7a4_78 (⟨congrArg nI (by rw [← nlz_ok h0 hv]; unfold nlzf; dsimp only; (repeat' split) <;> omega), rfl⟩)
          · -- 63 F
            refine x_iinc hC (z := -2) (v := (nI 17)) 1 rfl (by decide) [(1, .int (nI 17)), (0, .int (nI ((v / 2 ^ 8) / 2 ^ 4)))] rfl (lt_n hn rfl) dJ6_numberOfLeadingZeros_0f7a4_66 ?_
            refine x_iload_n hC 1 rfl dJ6_numberOfLeadingZeros_0f7a4_69 ?_
            refine x_iconst hC (v := (nI 2)) dJ6_numberOfLeadingZeros_0f7a4_70 rfl ?_
            refine x_iushr hC (v := (nI (((v / 2 ^ 8) / 2 ^ 4) / 2 ^ 2))) (nI_ushr (by omega) (by decide)) dJ6_numberOfLeadingZeros_0f7a4_71 ?_
            refine x_istore_n hC [(0, .int (nI (((v / 2 ^ 8) / 2 ^ 4) / 2 ^ 2))), (1, .int (nI 17))] rfl (lt_n hn rfl) dJ6_numberOfLeadingZeros_0f7a4_72 ?_
            refine x_iload_n hC 1 rfl dJ6_numberOfLeadingZeros_0f7a4_73 ?_
            refine x_iload_n hC 0 rfl dJ6_numberOfLeadingZeros_0f7a4_74 ?_
            refine x_iconst hC (v := (nI 1)) dJ6_numberOfLeadingZeros_0f7a4_75 rfl ?_
            refine x_iushr hC (v := (nI ((((v / 2 ^ 8) / 2 ^ 4) / 2 ^ 2) / 2 ^ 1))) (nI_ushr (by omega) (by decide)) dJ6_numberOfLeadingZeros_0f7a4_76 ?_
            refine x_isubE hC (z := (nI (17 - ((((v / 2 ^ 8) / 2 ^ 4) / 2 ^ 2) / 2 ^ 1)))) (pk_sub (by omega)) dJ6_numberOfLeadingZeros_0f7a4_77 ?_
            exact x_iret hC hR dJ6_numberOfLeadingZeros_0f7a4_78 (⟨congrArg nI (by rw [← nlz_ok h0 hv]; unfold nlzf; dsimp only; (repeat' split) <;> omega), rfl⟩)
    · -- 22 F
      exact absurd h22 (by omega)
  · -- 1 F
    exact absurd h1 (by omega)
set_option maxHeartbeats 4000000 in
set_option maxRecDepth 100000 in
theorem c_J6_highestOneBit_0f7a4 {l : Launch} {D : va_G} {c : Nat → ClassId} {v : Nat} (h0 : 0 < v) (hv : v < 16384) : KI l D (tyE c) w0 yJ6_highestOneBit_0f7a4 cJ6_highestOneBit_0f7a4 1 .int (rmL 2) [.int (nI v)] () (fun r u => r = nI (2 ^ Nat.log2 v) ∧ u = ()) := by
  refine x_enterI (by decide) (Nat.le_of_ble_eq_true rfl) (fun F hl hD hn hRm hC hR => ?_)
  subst hl hD
  change XW F 0 0 (w0 ()) [(0, .int (nI v))] 0 []
  change FC F cJ6_highestOneBit_0f7a4 RJ6 (tyE c) at hC
  refine x_iload_n hC 0 rfl dJ6_highestOneBit_0f7a4_0 ?_
  refine x_ldc hC cn_J6_127 dJ6_highestOneBit_0f7a4_1 ?_
  refine x_top (show ((-2147483648) : Int32) = (zI (-2147483648)) from rfl) ?_
  refine x_top (x := (zI (-2147483648))) (y := (nI 2147483648)) (by decide) ?_
  refine x_iload_n hC 0 rfl dJ6_highestOneBit_0f7a4_3 ?_
  refine x_callN hC cs_J6_51 (c_J6_numberOfLeadingZeros_0f7a4 (v := v)  (by first | assumption | omega) (by first | assumption | omega)) dJ6_highestOneBit_0f7a4_4 [.int (nI 2147483648), .int (nI v)] rfl (Nat.le_of_ble_eq_true rfl) rfl (rm_ok hRm (by decide) (by decide)) ?_
  refine x_iushr hC (v := (nI (2 ^ Nat.log2 v))) (hob_sh h0 hv) dJ6_highestOneBit_0f7a4_7 ?_
  refine x_iandE hC (z := (nI (v &&& (2 ^ Nat.log2 v)))) (nI_and _ _) dJ6_highestOneBit_0f7a4_8 ?_
  exact x_iret hC hR dJ6_highestOneBit_0f7a4_9 (⟨congrArg nI (hob_and h0), rfl⟩)
set_option maxHeartbeats 4000000 in
set_option maxRecDepth 100000 in
theorem c_J6_numberOfTrailingZeros_0f7a4 {l : Launch} {D : va_G} {c : Nat → ClassId} {w k : Nat} (hw : w = 2 ^ k) (hk : k < 8) : KI l D (tyE c) w0 yJ6_numberOfTrailingZeros_0f7a4 cJ6_numberOfTrailingZeros_0f7a4 2 .int (rmL 1) [.int (nI w)] () (fun r u => r = nI k ∧ u = ()) := by
  refine x_enterI (by decide) (Nat.le_of_ble_eq_true rfl) (fun F hl hD hn hRm hC hR => ?_)
  subst hl hD
  change XW F 0 0 (w0 ()) [(0, .int (nI w))] 0 []
  change FC F cJ6_numberOfTrailingZeros_0f7a4 RJ6 (tyE c) at hC
  subst hw
  obtain rfl | rfl | rfl | rfl | rfl | rfl | rfl | rfl : k = 0 ∨ k = 1 ∨ k = 2 ∨ k = 3 ∨ k = 4 ∨ k = 5 ∨ k = 6 ∨ k = 7 := by omega
  · skip
    change XW F 0 0 (w0 ()) [(0, .int (nI 1))] 0 []
    refine x_iload_n hC 0 rfl dJ6_numberOfTrailingZeros_0f7a4_0 ?_
    refine x_iconst hC (v := (zI (-1))) dJ6_numberOfTrailingZeros_0f7a4_1 rfl ?_
    refine x_ixorE hC (z := (nI 1 ^^^ (-1))) (rfl) dJ6_numberOfTrailingZeros_0f7a4_2 ?_
    refine x_iload_n hC 0 rfl dJ6_numberOfTrailingZeros_0f7a4_3 ?_
    refine x_iconst hC (v := (nI 1)) dJ6_numberOfTrailingZeros_0f7a4_4 rfl ?_
    refine x_isubE hC (z := (nI 0)) (by decide) dJ6_numberOfTrailingZeros_0f7a4_5 ?_
    refine x_iandE hC (z := (nI 0)) (by decide) dJ6_numberOfTrailingZeros_0f7a4_6 ?_
    refine x_istore_n hC [(0, .int (nI 0))] rfl (lt_n hn rfl) dJ6_numberOfTrailingZeros_0f7a4_7 ?_
    refine x_iload_n hC 0 rfl dJ6_numberOfTrailingZeros_0f7a4_8 ?_
    refine x_if_gt_F hC 17 dJ6_numberOfTrailingZeros_0f7a4_9 rfl (by decide) ?_
    refine x_iload_n hC 0 rfl dJ6_numberOfTrailingZeros_0f7a4_12 ?_
    refine x_bipush hC (v := (nI 32)) dJ6_numberOfTrailingZeros_0f7a4_13 rfl ?_
    refine x_iandE hC (z := (nI 0)) (by decide) dJ6_numberOfTrailingZeros_0f7a4_15 ?_
    exact x_iret hC hR dJ6_numberOfTrailingZeros_0f7a4_16 (⟨rfl, rfl⟩)
  · skip
    change XW F 0 0 (w0 ()) [(0, .int (nI 2))] 0 []
    refine x_iload_n hC 0 rfl dJ6_numberOfTrailingZeros_0f7a4_0 ?_
    refine x_iconst hC (v := (zI (-1))) dJ6_numberOfTrailingZeros_0f7a4_1 rfl ?_
    refine x_ixorE hC (z := (nI 2 ^^^ (-1))) (rfl) dJ6_numberOfTrailingZeros_0f7a4_2 ?_
    refine x_iload_n hC 0 rfl dJ6_numberOfTrailingZeros_0f7a4_3 ?_
    refine x_iconst hC (v := (nI 1)) dJ6_numberOfTrailingZeros_0f7a4_4 rfl ?_
    refine x_isubE hC (z := (nI 1)) (by decide) dJ6_numberOfTrailingZeros_0f7a4_5 ?_
    refine x_iandE hC (z := (nI 1)) (by decide) dJ6_numberOfTrailingZeros_0f7a4_6 ?_
    refine x_istore_n hC [(0, .int (nI 1))] rfl (lt_n hn rfl) dJ6_numberOfTrailingZeros_0f7a4_7 ?_
    refine x_iload_n hC 0 rfl dJ6_numberOfTrailingZeros_0f7a4_8 ?_
    refine x_if_gt_T hC 17 dJ6_numberOfTrailingZeros_0f7a4_9 rfl (by decide) ?_
    refine x_iconst hC (v := (nI 1)) dJ6_numberOfTrailingZeros_0f7a4_17 rfl ?_
    refine x_istore_n hC [(1, .int (nI 1)), (0, .int (nI 1))] rfl (lt_n hn rfl) dJ6_numberOfTrailingZeros_0f7a4_18 ?_
    refine x_iload_n hC 1 rfl dJ6_numberOfTrailingZeros_0f7a4_19 ?_
    refine x_ldcw hC cn_J6_264 dJ6_numberOfTrailingZeros_0f7a4_20 ?_
    refine x_top (show (65536 : Int32) = (nI 65536) from rfl) ?_
    refine x_icmp_le_T hC 34 dJ6_numberOfTrailingZeros_0f7a4_23 rfl (by decide) ?_
    refine x_iload_n hC 1 rfl dJ6_numberOfTrailingZeros_0f7a4_34 ?_
    refine x_sipush hC (v := (nI 256)) dJ6_numberOfTrailingZeros_0f7a4_35 rfl ?_
    refine x_icmp_le_T hC 49 dJ6_numberOfTrailingZeros_0f7a4_38 rfl (by decide) ?_
    refine x_iload_n hC 1 rfl dJ6_numberOfTrailingZeros_0f7a4_49 ?_
    refine x_bipush hC (v := (nI 16)) dJ6_numberOfTrailingZeros_0f7a4_50 rfl ?_
    refine x_icmp_le_T hC 62 dJ6_numberOfTrailingZeros_0f7a4_52 rfl (by decide) ?_
    refine x_iload_n hC 1 rfl dJ6_numberOfTrailingZeros_0f7a4_62 ?_
    refine x_iconst hC (v := (nI 4)) dJ6_numberOfTrailingZeros_0f7a4_63 rfl ?_
    refine x_icmp_le_T hC 74 dJ6_numberOfTrailingZeros_0f7a4_64 rfl (by decide) ?_
    refine x_iload_n hC 0 rfl dJ6_numberOfTrailingZeros_0f7a4_74 ?_
    refine x_iload_n hC 1 rfl dJ6_numberOfTrailingZeros_0f7a4_75 ?_
    refine x_iconst hC (v := (nI 1)) dJ6_numberOfTrailingZeros_0f7a4_76 rfl ?_
    refine x_iushr hC (v := (nI 0)) (by decide) dJ6_numberOfTrailingZeros_0f7a4_77 ?_
    refine x_iaddE hC (z := (nI 1)) (by decide) dJ6_numberOfTrailingZeros_0f7a4_78 ?_
    exact x_iret hC hR dJ6_numberOfTrailingZeros_0f7a4_79 (⟨rfl, rfl⟩)
  · skip
    change XW F 0 0 (w0 ()) [(0, .int (nI 4))] 0 []
    refine x_iload_n hC 0 rfl dJ6_numberOfTrailingZeros_0f7a4_0 ?_
    refine x_iconst hC (v := (zI (-1))) dJ6_numberOfTrailingZeros_0f7a4_1 rfl ?_
    refine x_ixorE hC (z := (nI 4 ^^^ (-1))) (rfl) dJ6_numberOfTrailingZeros_0f7a4_2 ?_
    refine x_iload_n hC 0 rfl dJ6_numberOfTrailingZeros_0f7a4_3 ?_
    refine x_iconst hC (v := (nI 1)) dJ6_numberOfTrailingZeros_0f7a4_4 rfl ?_
    refine x_isubE hC (z := (nI 3)) (by decide) dJ6_numberOfTrailingZeros_0f7a4_5 ?_
    refine x_iandE hC (z := (nI 3)) (by decide) dJ6_numberOfTrailingZeros_0f7a4_6 ?_
    refine x_istore_n hC [(0, .int (nI 3))] rfl (lt_n hn rfl) dJ6_numberOfTrailingZeros_0f7a4_7 ?_
    refine x_iload_n hC 0 rfl dJ6_numberOfTrailingZeros_0f7a4_8 ?_
    refine x_if_gt_T hC 17 dJ6_numberOfTrailingZeros_0f7a4_9 rfl (by decide) ?_
    refine x_iconst hC (v := (nI 1)) dJ6_numberOfTrailingZeros_0f7a4_17 rfl ?_
    refine x_istore_n hC [(1, .int (nI 1)), (0, .int (nI 3))] rfl (lt_n hn rfl) dJ6_numberOfTrailingZeros_0f7a4_18 ?_
    refine x_iload_n hC 1 rfl dJ6_numberOfTrailingZeros_0f7a4_19 ?_
    refine x_ldcw hC cn_J6_264 dJ6_numberOfTrailingZeros_0f7a4_20 ?_
    refine x_top (show (65536 : Int32) = (nI 65536) from rfl) ?_
    refine x_icmp_le_T hC 34 dJ6_numberOfTrailingZeros_0f7a4_23 rfl (by decide) ?_
    refine x_iload_n hC 1 rfl dJ6_numberOfTrailingZeros_0f7a4_34 ?_
    refine x_sipush hC (v := (nI 256)) dJ6_numberOfTrailingZeros_0f7a4_35 rfl ?_
    refine x_icmp_le_T hC 49 dJ6_numberOfTrailingZeros_0f7a4_38 rfl (by decide) ?_
    refine x_iload_n hC 1 rfl dJ6_numberOfTrailingZeros_0f7a4_49 ?_
    refine x_bipush hC (v := (nI 16)) dJ6_numberOfTrailingZeros_0f7a4_50 rfl ?_
    refine x_icmp_le_T hC 62 dJ6_numberOfTrailingZeros_0f7a4_52 rfl (by decide) ?_
    refine x_iload_n hC 1 rfl dJ6_numberOfTrailingZeros_0f7a4_62 ?_
    refine x_iconst hC (v := (nI 4)) dJ6_numberOfTrailingZeros_0f7a4_63 rfl ?_
    refine x_icmp_le_T hC 74 dJ6_numberOfTrailingZeros_0f7a4_64 rfl (by decide) ?_
    refine x_iload_n hC 0 rfl dJ6_numberOfTrailingZeros_0f7a4_74 ?_
    refine x_iload_n hC 1 rfl dJ6_numberOfTrailingZeros_0f7a4_75 ?_
    refine x_iconst hC (v := (nI 1)) dJ6_numberOfTrailingZeros_0f7a4_76 rfl ?_
    refine x_iushr hC (v := (nI 1)) (by decide) dJ6_numberOfTrailingZeros_0f7a4_77 ?_
    refine x_iaddE hC (z := (nI 2)) (by decide) dJ6_numberOfTrailingZeros_0f7a4_78 ?_
    exact x_iret hC hR dJ6_numberOfTrailingZeros_0f7a4_79 (⟨rfl, rfl⟩)
  · skip
    change XW F 0 0 (w0 ()) [(0, .int (nI 8))] 0 []
    refine x_iload_n hC 0 rfl dJ6_numberOfTrailingZeros_0f7a4_0 ?_
    refine x_iconst hC (v := (zI (-1))) dJ6_numberOfTrailingZeros_0f7a4_1 rfl ?_
    refine x_ixorE hC (z := (nI 8 ^^^ (-1))) (rfl) dJ6_numberOfTrailingZeros_0f7a4_2 ?_
    refine x_iload_n hC 0 rfl dJ6_numberOfTrailingZeros_0f7a4_3 ?_
    refine x_iconst hC (v := (nI 1)) dJ6_numberOfTrailingZeros_0f7a4_4 rfl ?_
    refine x_isubE hC (z := (nI 7)) (by decide) dJ6_numberOfTrailingZeros_0f7a4_5 ?_
    refine x_iandE hC (z := (nI 7)) (by decide) dJ6_numberOfTrailingZeros_0f7a4_6 ?_
    refine x_istore_n hC [(0, .int (nI 7))] rfl (lt_n hn rfl) dJ6_numberOfTrailingZeros_0f7a4_7 ?_
    refine x_iload_n hC 0 rfl dJ6_numberOfTrailingZeros_0f7a4_8 ?_
    refine x_if_gt_T hC 17 dJ6_numberOfTrailingZeros_0f7a4_9 rfl (by decide) ?_
    refine x_iconst hC (v := (nI 1)) dJ6_numberOfTrailingZeros_0f7a4_17 rfl ?_
    refine x_istore_n hC [(1, .int (nI 1)), (0, .int (nI 7))] rfl (lt_n hn rfl) dJ6_numberOfTrailingZeros_0f7a4_18 ?_
    refine x_iload_n hC 1 rfl dJ6_numberOfTrailingZeros_0f7a4_19 ?_
    refine x_ldcw hC cn_J6_264 dJ6_numberOfTrailingZeros_0f7a4_20 ?_
    refine x_top (show (65536 : Int32) = (nI 65536) from rfl) ?_
    refine x_icmp_le_T hC 34 dJ6_numberOfTrailingZeros_0f7a4_23 rfl (by decide) ?_
    refine x_iload_n hC 1 rfl dJ6_numberOfTrailingZeros_0f7a4_34 ?_
    refine x_sipush hC (v := (nI 256)) dJ6_numberOfTrailingZeros_0f7a4_35 rfl ?_
    refine x_icmp_le_T hC 49 dJ6_numberOfTrailingZeros_0f7a4_38 rfl (by decide) ?_
    refine x_iload_n hC 1 rfl dJ6_numberOfTrailingZeros_0f7a4_49 ?_
    refine x_bipush hC (v := (nI 16)) dJ6_numberOfTrailingZeros_0f7a4_50 rfl ?_
    refine x_icmp_le_T hC 62 dJ6_numberOfTrailingZeros_0f7a4_52 rfl (by decide) ?_
    refine x_iload_n hC 1 rfl dJ6_numberOfTrailingZeros_0f7a4_62 ?_
    refine x_iconst hC (v := (nI 4)) dJ6_numberOfTrailingZeros_0f7a4_63 rfl ?_
    refine x_icmp_le_F hC 74 dJ6_numberOfTrailingZeros_0f7a4_64 rfl (by decide) ?_
    refine x_iinc hC (z := 2) (v := (nI 3)) 0 rfl (rfl) [(1, .int (nI 3)), (0, .int (nI 7))] rfl (lt_n hn rfl) dJ6_numberOfTrailingZeros_0f7a4_67 ?_
    refine x_iload_n hC 1 rfl dJ6_numberOfTrailingZeros_0f7a4_70 ?_
    refine x_iconst hC (v := (nI 2)) dJ6_numberOfTrailingZeros_0f7a4_71 rfl ?_
    refine x_iushr hC (v := (nI 1)) (by decide) dJ6_numberOfTrailingZeros_0f7a4_72 ?_
    refine x_istore_n hC [(0, .int (nI 1)), (1, .int (nI 3))] rfl (lt_n hn rfl) dJ6_numberOfTrailingZeros_0f7a4_73 ?_
    refine x_iload_n hC 1 rfl dJ6_numberOfTrailingZeros_0f7a4_74 ?_
    refine x_iload_n hC 0 rfl dJ6_numberOfTrailingZeros_0f7a4_75 ?_
    refine x_iconst hC (v := (nI 1)) dJ6_numberOfTrailingZeros_0f7a4_76 rfl ?_
    refine x_iushr hC (v := (nI 0)) (by decide) dJ6_numberOfTrailingZeros_0f7a4_77 ?_
    refine x_iaddE hC (z := (nI 3)) (by decide) dJ6_numberOfTrailingZeros_0f7a4_78 ?_
    exact x_iret hC hR dJ6_numberOfTrailingZeros_0f7a4_79 (⟨rfl, rfl⟩)
  · skip
    change XW F 0 0 (w0 ()) [(0, .int (nI 16))] 0 []
    refine x_iload_n hC 0 rfl dJ6_numberOfTrailingZeros_0f7a4_0 ?_
    refine x_iconst hC (v := (zI (-1))) dJ6_numberOfTrailingZeros_0f7a4_1 rfl ?_
    refine x_ixorE hC (z := (nI 16 ^^^ (-1))) (rfl) dJ6_numberOfTrailingZeros_0f7a4_2 ?_
    refine x_iload_n hC 0 rfl dJ6_numberOfTrailingZeros_0f7a4_3 ?_
    refine x_iconst hC (v := (nI 1)) dJ6_numberOfTrailingZeros_0f7a4_4 rfl ?_
    refine x_isubE hC (z := (nI 15)) (by decide) dJ6_numberOfTrailingZeros_0f7a4_5 ?_
    refine x_iandE hC (z := (nI 15)) (by decide) dJ6_numberOfTrailingZeros_0f7a4_6 ?_
    refine x_istore_n hC [(0, .int (nI 15))] rfl (lt_n hn rfl) dJ6_numberOfTrailingZeros_0f7a4_7 ?_
    refine x_iload_n hC 0 rfl dJ6_numberOfTrailingZeros_0f7a4_8 ?_
    refine x_if_gt_T hC 17 dJ6_numberOfTrailingZeros_0f7a4_9 rfl (by decide) ?_
    refine x_iconst hC (v := (nI 1)) dJ6_numberOfTrailingZeros_0f7a4_17 rfl ?_
    refine x_istore_n hC [(1, .int (nI 1)), (0, .int (nI 15))] rfl (lt_n hn rfl) dJ6_numberOfTrailingZeros_0f7a4_18 ?_
    refine x_iload_n hC 1 rfl dJ6_numberOfTrailingZeros_0f7a4_19 ?_
    refine x_ldcw hC cn_J6_264 dJ6_numberOfTrailingZeros_0f7a4_20 ?_
    refine x_top (show (65536 : Int32) = (nI 65536) from rfl) ?_
    refine x_icmp_le_T hC 34 dJ6_numberOfTrailingZeros_0f7a4_23 rfl (by decide) ?_
    refine x_iload_n hC 1 rfl dJ6_numberOfTrailingZeros_0f7a4_34 ?_
    refine x_sipush hC (v := (nI 256)) dJ6_numberOfTrailingZeros_0f7a4_35 rfl ?_
    refine x_icmp_le_T hC 49 dJ6_numberOfTrailingZeros_0f7a4_38 rfl (by decide) ?_
    refine x_iload_n hC 1 rfl dJ6_numberOfTrailingZeros_0f7a4_49 ?_
    refine x_bipush hC (v := (nI 16)) dJ6_numberOfTrailingZeros_0f7a4_50 rfl ?_
    refine x_icmp_le_T hC 62 dJ6_numberOfTrailingZeros_0f7a4_52 rfl (by decide) ?_
    refine x_iload_n hC 1 rfl dJ6_numberOfTrailingZeros_0f7a4_62 ?_
    refine x_iconst hC (v := (nI 4)) dJ6_numberOfTrailingZeros_0f7a4_63 rfl ?_
    refine x_icmp_le_F hC 74 dJ6_numberOfTrailingZeros_0f7a4_64 rfl (by decide) ?_
    refine x_iinc hC (z := 2) (v := (nI 3)) 0 rfl (rfl) [(1, .int (nI 3)), (0, .int (nI 15))] rfl (lt_n hn rfl) dJ6_numberOfTrailingZeros_0f7a4_67 ?_
    refine x_iload_n hC 1 rfl dJ6_numberOfTrailingZeros_0f7a4_70 ?_
    refine x_iconst hC (v := (nI 2)) dJ6_numberOfTrailingZeros_0f7a4_71 rfl ?_
    refine x_iushr hC (v := (nI 3)) (by decide) dJ6_numberOfTrailingZeros_0f7a4_72 ?_
    refine x_istore_n hC [(0, .int (nI 3)), (1, .int (nI 3))] rfl (lt_n hn rfl) dJ6_numberOfTrailingZeros_0f7a4_73 ?_
    refine x_iload_n hC 1 rfl dJ6_numberOfTrailingZeros_0f7a4_74 ?_
    refine x_iload_n hC 0 rfl dJ6_numberOfTrailingZeros_0f7a4_75 ?_
    refine x_iconst hC (v := (nI 1)) dJ6_numberOfTrailingZeros_0f7a4_76 rfl ?_
    refine x_iushr hC (v := (nI 1)) (by decide) dJ6_numberOfTrailingZeros_0f7a4_77 ?_
    refine x_iaddE hC (z := (nI 4)) (by decide) dJ6_numberOfTrailingZeros_0f7a4_78 ?_
    exact x_iret hC hR dJ6_numberOfTrailingZeros_0f7a4_79 (⟨rfl, rfl⟩)
  · skip
    change XW F 0 0 (w0 ()) [(0, .int (nI 32))] 0 []
    refine x_iload_n hC 0 rfl dJ6_numberOfTrailingZeros_0f7a4_0 ?_
    refine x_iconst hC (v := (zI (-1))) dJ6_numberOfTrailingZeros_0f7a4_1 rfl ?_
    refine x_ixorE hC (z := (nI 32 ^^^ (-1))) (rfl) dJ6_numberOfTrailingZeros_0f7a4_2 ?_
    refine x_iload_n hC 0 rfl dJ6_numberOfTrailingZeros_0f7a4_3 ?_
    refine x_iconst hC (v := (nI 1)) dJ6_numberOfTrailingZeros_0f7a4_4 rfl ?_
    refine x_isubE hC (z := (nI 31)) (by decide) dJ6_numberOfTrailingZeros_0f7a4_5 ?_
    refine x_iandE hC (z := (nI 31)) (by decide) dJ6_numberOfTrailingZeros_0f7a4_6 ?_
    refine x_istore_n hC [(0, .int (nI 31))] rfl (lt_n hn rfl) dJ6_numberOfTrailingZeros_0f7a4_7 ?_
    refine x_iload_n hC 0 rfl dJ6_numberOfTrailingZeros_0f7a4_8 ?_
    refine x_if_gt_T hC 17 dJ6_numberOfTrailingZeros_0f7a4_9 rfl (by decide) ?_
    refine x_iconst hC (v := (nI 1)) dJ6_numberOfTrailingZeros_0f7a4_17 rfl ?_
    refine x_istore_n hC [(1, .int (nI 1)), (0, .int (nI 31))] rfl (lt_n hn rfl) dJ6_numberOfTrailingZeros_0f7a4_18 ?_
    refine x_iload_n hC 1 rfl dJ6_numberOfTrailingZeros_0f7a4_19 ?_
    refine x_ldcw hC cn_J6_264 dJ6_numberOfTrailingZeros_0f7a4_20 ?_
    refine x_top (show (65536 : Int32) = (nI 65536) from rfl) ?_
    refine x_icmp_le_T hC 34 dJ6_numberOfTrailingZeros_0f7a4_23 rfl (by decide) ?_
    refine x_iload_n hC 1 rfl dJ6_numberOfTrailingZeros_0f7a4_34 ?_
    refine x_sipush hC (v := (nI 256)) dJ6_numberOfTrailingZeros_0f7a4_35 rfl ?_
    refine x_icmp_le_T hC 49 dJ6_numberOfTrailingZeros_0f7a4_38 rfl (by decide) ?_
    refine x_iload_n hC 1 rfl dJ6_numberOfTrailingZeros_0f7a4_49 ?_
    refine x_bipush hC (v := (nI 16)) dJ6_numberOfTrailingZeros_0f7a4_50 rfl ?_
    refine x_icmp_le_F hC 62 dJ6_numberOfTrailingZeros_0f7a4_52 rfl (by decide) ?_
    refine x_iinc hC (z := 4) (v := (nI 5)) 0 rfl (rfl) [(1, .int (nI 5)), (0, .int (nI 31))] rfl (lt_n hn rfl) dJ6_numberOfTrailingZeros_0f7a4_55 ?_
    refine x_iload_n hC 1 rfl dJ6_numberOfTrailingZeros_0f7a4_58 ?_
    refine x_iconst hC (v := (nI 4)) dJ6_numberOfTrailingZeros_0f7a4_59 rfl ?_
    refine x_iushr hC (v := (nI 1)) (by decide) dJ6_numberOfTrailingZeros_0f7a4_60 ?_
    refine x_istore_n hC [(0, .int (nI 1)), (1, .int (nI 5))] rfl (lt_n hn rfl) dJ6_numberOfTrailingZeros_0f7a4_61 ?_
    refine x_iload_n hC 0 rfl dJ6_numberOfTrailingZeros_0f7a4_62 ?_
    refine x_iconst hC (v := (nI 4)) dJ6_numberOfTrailingZeros_0f7a4_63 rfl ?_
    refine x_icmp_le_T hC 74 dJ6_numberOfTrailingZeros_0f7a4_64 rfl (by decide) ?_
    refine x_iload_n hC 1 rfl dJ6_numberOfTrailingZeros_0f7a4_74 ?_
    refine x_iload_n hC 0 rfl dJ6_numberOfTrailingZeros_0f7a4_75 ?_
    refine x_iconst hC (v := (nI 1)) dJ6_numberOfTrailingZeros_0f7a4_76 rfl ?_
    refine x_iushr hC (v := (nI 0)) (by decide) dJ6_numberOfTrailingZeros_0f7a4_77 ?_
    refine x_iaddE hC (z := (nI 5)) (by decide) dJ6_numberOfTrailingZeros_0f7a4_78 ?_
    exact x_iret hC hR dJ6_numberOfTrailingZeros_0f7a4_79 (⟨rfl, rfl⟩)
  · skip
    change XW F 0 0 (w0 ()) [(0, .int (nI 64))] 0 []
    refine x_iload_n hC 0 rfl dJ6_numberOfTrailingZeros_0f7a4_0 ?_
    refine x_iconst hC (v := (zI (-1))) dJ6_numberOfTrailingZeros_0f7a4_1 rfl ?_
    refine x_ixorE hC (z := (nI 64 ^^^ (-1))) (rfl) dJ6_numberOfTrailingZeros_0f7a4_2 ?_
    refine x_iload_n hC 0 rfl dJ6_numberOfTrailingZeros_0f7a4_3 ?_
    refine x_iconst hC (v := (nI 1)) dJ6_numberOfTrailingZeros_0f7a4_4 rfl ?_
    refine x_isubE hC (z := (nI 63)) (by decide) dJ6_numberOfTrailingZeros_0f7a4_5 ?_
    refine x_iandE hC (z := (nI 63)) (by decide) dJ6_numberOfTrailingZeros_0f7a4_6 ?_
    refine x_istore_n hC [(0, .int (nI 63))] rfl (lt_n hn rfl) dJ6_numberOfTrailingZeros_0f7a4_7 ?_
    refine x_iload_n hC 0 rfl dJ6_numberOfTrailingZeros_0f7a4_8 ?_
    refine x_if_gt_T hC 17 dJ6_numberOfTrailingZeros_0f7a4_9 rfl (by decide) ?_
    refine x_iconst hC (v := (nI 1)) dJ6_numberOfTrailingZeros_0f7a4_17 rfl ?_
    refine x_istore_n hC [(1, .int (nI 1)), (0, .int (nI 63))] rfl (lt_n hn rfl) dJ6_numberOfTrailingZeros_0f7a4_18 ?_
    refine x_iload_n hC 1 rfl dJ6_numberOfTrailingZeros_0f7a4_19 ?_
    refine x_ldcw hC cn_J6_264 dJ6_numberOfTrailingZeros_0f7a4_20 ?_
    refine x_top (show (65536 : Int32) = (nI 65536) from rfl) ?_
    refine x_icmp_le_T hC 34 dJ6_numberOfTrailingZeros_0f7a4_23 rfl (by decide) ?_
    refine x_iload_n hC 1 rfl dJ6_numberOfTrailingZeros_0f7a4_34 ?_
    refine x_sipush hC (v := (nI 256)) dJ6_numberOfTrailingZeros_0f7a4_35 rfl ?_
    refine x_icmp_le_T hC 49 dJ6_numberOfTrailingZeros_0f7a4_38 rfl (by decide) ?_
    refine x_iload_n hC 1 rfl dJ6_numberOfTrailingZeros_0f7a4_49 ?_
    refine x_bipush hC (v := (nI 16)) dJ6_numberOfTrailingZeros_0f7a4_50 rfl ?_
    refine x_icmp_le_F hC 62 dJ6_numberOfTrailingZeros_0f7a4_52 rfl (by decide) ?_
    refine x_iinc hC (z := 4) (v := (nI 5)) 0 rfl (rfl) [(1, .int (nI 5)), (0, .int (nI 63))] rfl (lt_n hn rfl) dJ6_numberOfTrailingZeros_0f7a4_55 ?_
    refine x_iload_n hC 1 rfl dJ6_numberOfTrailingZeros_0f7a4_58 ?_
    refine x_iconst hC (v := (nI 4)) dJ6_numberOfTrailingZeros_0f7a4_59 rfl ?_
    refine x_iushr hC (v := (nI 3)) (by decide) dJ6_numberOfTrailingZeros_0f7a4_60 ?_
    refine x_istore_n hC [(0, .int (nI 3)), (1, .int (nI 5))] rfl (lt_n hn rfl) dJ6_numberOfTrailingZeros_0f7a4_61 ?_
    refine x_iload_n hC 0 rfl dJ6_numberOfTrailingZeros_0f7a4_62 ?_
    refine x_iconst hC (v := (nI 4)) dJ6_numberOfTrailingZeros_0f7a4_63 rfl ?_
    refine x_icmp_le_T hC 74 dJ6_numberOfTrailingZeros_0f7a4_64 rfl (by decide) ?_
    refine x_iload_n hC 1 rfl dJ6_numberOfTrailingZeros_0f7a4_74 ?_
    refine x_iload_n hC 0 rfl dJ6_numberOfTrailingZeros_0f7a4_75 ?_
    refine x_iconst hC (v := (nI 1)) dJ6_numberOfTrailingZeros_0f7a4_76 rfl ?_
    refine x_iushr hC (v := (nI 1)) (by decide) dJ6_numberOfTrailingZeros_0f7a4_77 ?_
    refine x_iaddE hC (z := (nI 6)) (by decide) dJ6_numberOfTrailingZeros_0f7a4_78 ?_
    exact x_iret hC hR dJ6_numberOfTrailingZeros_0f7a4_79 (⟨rfl, rfl⟩)
  · skip
    change XW F 0 0 (w0 ()) [(0, .int (nI 128))] 0 []
    refine x_iload_n hC 0 rfl dJ6_numberOfTrailingZeros_0f7a4_0 ?_
    refine x_iconst hC (v := (zI (-1))) dJ6_numberOfTrailingZeros_0f7a4_1 rfl ?_
    refine x_ixorE hC (z := (nI 128 ^^^ (-1))) (rfl) dJ6_numberOfTrailingZeros_0f7a4_2 ?_
    refine x_iload_n hC 0 rfl dJ6_numberOfTrailingZeros_0f7a4_3 ?_
    refine x_iconst hC (v := (nI 1)) dJ6_numberOfTrailingZeros_0f7a4_4 rfl ?_
    refine x_isubE hC (z := (nI 127)) (by decide) dJ6_numberOfTrailingZeros_0f7a4_5 ?_
    refine x_iandE hC (z := (nI 127)) (by decide) dJ6_numberOfTrailingZeros_0f7a4_6 ?_
    refine x_istore_n hC [(0, .int (nI 127))] rfl (lt_n hn rfl) dJ6_numberOfTrailingZeros_0f7a4_7 ?_
    refine x_iload_n hC 0 rfl dJ6_numberOfTrailingZeros_0f7a4_8 ?_
    refine x_if_gt_T hC 17 dJ6_numberOfTrailingZeros_0f7a4_9 rfl (by decide) ?_
    refine x_iconst hC (v := (nI 1)) dJ6_numberOfTrailingZeros_0f7a4_17 rfl ?_
    refine x_istore_n hC [(1, .int (nI 1)), (0, .int (nI 127))] rfl (lt_n hn rfl) dJ6_numberOfTrailingZeros_0f7a4_18 ?_
    refine x_iload_n hC 1 rfl dJ6_numberOfTrailingZeros_0f7a4_19 ?_
    refine x_ldcw hC cn_J6_264 dJ6_numberOfTrailingZeros_0f7a4_20 ?_
    refine x_top (show (65536 : Int32) = (nI 65536) from rfl) ?_
    refine x_icmp_le_T hC 34 dJ6_numberOfTrailingZeros_0f7a4_23 rfl (by decide) ?_
    refine x_iload_n hC 1 rfl dJ6_numberOfTrailingZeros_0f7a4_34 ?_
    refine x_sipush hC (v := (nI 256)) dJ6_numberOfTrailingZeros_0f7a4_35 rfl ?_
    refine x_icmp_le_T hC 49 dJ6_numberOfTrailingZeros_0f7a4_38 rfl (by decide) ?_
    refine x_iload_n hC 1 rfl dJ6_numberOfTrailingZeros_0f7a4_49 ?_
    refine x_bipush hC (v := (nI 16)) dJ6_numberOfTrailingZeros_0f7a4_50 rfl ?_
    refine x_icmp_le_F hC 62 dJ6_numberOfTrailingZeros_0f7a4_52 rfl (by decide) ?_
    refine x_iinc hC (z := 4) (v := (nI 5)) 0 rfl (rfl) [(1, .int (nI 5)), (0, .int (nI 127))] rfl (lt_n hn rfl) dJ6_numberOfTrailingZeros_0f7a4_55 ?_
    refine x_iload_n hC 1 rfl dJ6_numberOfTrailingZeros_0f7a4_58 ?_
    refine x_iconst hC (v := (nI 4)) dJ6_numberOfTrailingZeros_0f7a4_59 rfl ?_
    refine x_iushr hC (v := (nI 7)) (by decide) dJ6_numberOfTrailingZeros_0f7a4_60 ?_
    refine x_istore_n hC [(0, .int (nI 7)), (1, .int (nI 5))] rfl (lt_n hn rfl) dJ6_numberOfTrailingZeros_0f7a4_61 ?_
    refine x_iload_n hC 0 rfl dJ6_numberOfTrailingZeros_0f7a4_62 ?_
    refine x_iconst hC (v := (nI 4)) dJ6_numberOfTrailingZeros_0f7a4_63 rfl ?_
    refine x_icmp_le_F hC 74 dJ6_numberOfTrailingZeros_0f7a4_64 rfl (by decide) ?_
    refine x_iinc hC (z := 2) (v := (nI 7)) 1 rfl (rfl) [(1, .int (nI 7)), (0, .int (nI 7))] rfl (lt_n hn rfl) dJ6_numberOfTrailingZeros_0f7a4_67 ?_
    refine x_iload_n hC 1 rfl dJ6_numberOfTrailingZeros_0f7a4_70 ?_
    refine x_iconst hC (v := (nI 2)) dJ6_numberOfTrailingZeros_0f7a4_71 rfl ?_
    refine x_iushr hC (v := (nI 1)) (by decide) dJ6_numberOfTrailingZeros_0f7a4_72 ?_
    refine x_istore_n hC [(0, .int (nI 1)), (1, .int (nI 7))] rfl (lt_n hn rfl) dJ6_numberOfTrailingZeros_0f7a4_73 ?_
    refine x_iload_n hC 1 rfl dJ6_numberOfTrailingZeros_0f7a4_74 ?_
    refine x_iload_n hC 0 rfl dJ6_numberOfTrailingZeros_0f7a4_75 ?_
    refine x_iconst hC (v := (nI 1)) dJ6_numberOfTrailingZeros_0f7a4_76 rfl ?_
    refine x_iushr hC (v := (nI 0)) (by decide) dJ6_numberOfTrailingZeros_0f7a4_77 ?_
    refine x_iaddE hC (z := (nI 7)) (by decide) dJ6_numberOfTrailingZeros_0f7a4_78 ?_
    exact x_iret hC hR dJ6_numberOfTrailingZeros_0f7a4_79 (⟨rfl, rfl⟩)
