/-! Pairs -/
def psm (w : Nat → Int) (q : Nat) : Nat → Int
  | 0 => -(0 + w 3 + w 2 + w 1 + w 0)
  | i + 1 => psm w q i + (if bt q i = 1 then 2 * w i else 0)
theorem psm_smx (w : Nat → Int) (q : Nat) : psm w q 4 = smx w q 4 := by
  simp only [psm, smx]
  (repeat' split) <;> omega
theorem bt_low {q i : Nat} (h : q < 2 ^ i) : bt q i = 0 := by unfold bt; rw [Nat.div_eq_of_lt h]
theorem bt_add {q i : Nat} (h : q < 2 ^ i) : bt (2 ^ i + q) i = 1 := by
  unfold bt
  rw [Nat.add_div_left q (Nat.two_pow_pos i), Nat.div_eq_of_lt h]
theorem bt_addlow {q i j : Nat} (h : j < i) : bt (2 ^ i + q) j = bt q j := by
  have e := Nat.testBit_two_pow_add_gt h q
  rw [bt_testBit, bt_testBit] at e
  have h1 := bt_lt (2 ^ i + q) j
  have h2 := bt_lt q j
  rcases (show bt (2 ^ i + q) j = 0 ∨ bt (2 ^ i + q) j = 1 by omega) with a | a <;> rcases (show bt q j = 0 ∨ bt q j = 1 by omega) with b | b <;> rw [a, b] at e <;> rw [a, b] <;> simp at e
theorem psm_low (w : Nat → Int) (q i : Nat) : ∀ j, j ≤ i → psm w (2 ^ i + q) j = psm w q j
  | 0, _ => rfl
  | j + 1, h => by
    show psm w (2 ^ i + q) j + _ = psm w q j + _
    rw [psm_low w q i j (by omega), bt_addlow (by omega)]
theorem psm_next {w : Nat → Int} {i : Nat} {g : Nat → Int32} (h1 : ∀ q, q < 2 ^ i → g q = zI (psm w q i)) (h2 : ∀ q, q < 2 ^ i → g (2 ^ i + q) = zI (psm w q i + 2 * w i)) : ∀ q, q < 2 ^ (i + 1) → g q = zI (psm w q (i + 1)) := by
  intro q hq
  have hp : 2 ^ (i + 1) = 2 ^ i + 2 ^ i := by rw [Nat.pow_succ]; omega
  by_cases h : q < 2 ^ i
  · rw [h1 q h]
    show _ = zI (psm w q i + if bt q i = 1 then 2 * w i else 0)
    rw [bt_low h]
    simp
  · obtain ⟨r, rfl⟩ : ∃ r, q = 2 ^ i + r := ⟨q - 2 ^ i, by omega⟩
    rw [h2 r (by omega)]
    show _ = zI (psm w (2 ^ i + r) i + if bt (2 ^ i + r) i = 1 then 2 * w i else 0)
    rw [psm_low w r i i (Nat.le_refl _), bt_add (by omega)]
    simp
theorem wv_b (t : Nat) (ht : t < 2401) (i : Nat) : -3 ≤ wv t i ∧ wv t i ≤ 3 := by
  unfold wv
  split <;> omega
theorem smx_b {w : Nat → Int} (h : ∀ i, -3 ≤ w i ∧ w i ≤ 3) (q : Nat) : ∀ n : Nat, -(3 * (n : Int)) ≤ smx w q n ∧ smx w q n ≤ 3 * (n : Int)
  | 0 => by simp [smx]
  | n + 1 => by
    have h1 := smx_b h q n
    have h2 := h n
    simp only [smx]
    split <;> omega
theorem sm_b (t : Nat) (ht : t < 2401) (q : Nat) : -12 ≤ sm t q ∧ sm t q ≤ 12 := by
  have := smx_b (wv_b t ht) q 4
  unfold sm
  omega
def llx (A : Nat → Nat) (s : Nat → Int) : Nat → Int
  | 0 => -6
  | q + 1 => if A q = 1 then max (llx A s q) (s q + 1) else llx A s q
def glx (A : Nat → Nat) (s : Nat → Int) : Nat → Int
  | 0 => 6
  | q + 1 => if A q = 2 then min (glx A s q) (s q) else glx A s q
theorem llx_b {A : Nat → Nat} {s : Nat → Int} (h : ∀ q, s q ≤ 12) : ∀ m, -6 ≤ llx A s m ∧ llx A s m ≤ 13
  | 0 => by simp [llx]
  | m + 1 => by
    have h1 := llx_b h (A := A) m
    have h2 := h m
    simp only [llx]
    split <;> omega
theorem glx_b {A : Nat → Nat} {s : Nat → Int} (h : ∀ q, -12 ≤ s q) : ∀ m, -12 ≤ glx A s m ∧ glx A s m ≤ 6
  | 0 => by simp [glx]
  | m + 1 => by
    have h1 := glx_b h (A := A) m
    have h2 := h m
    simp only [glx]
    split <;> omega
theorem zI_max {a b : Int} (ha : -2147483648 ≤ a ∧ a < 2147483648) (hb : -2147483648 ≤ b ∧ b < 2147483648) : (if zI a < zI b then zI b else zI a) = zI (max a b) := by
  by_cases h : a < b
  · rw [if_pos ((zI_lt ha hb).mpr h), Int.max_eq_right (Int.le_of_lt h)]
  · rw [if_neg (fun q => h ((zI_lt ha hb).mp q)), Int.max_eq_left (by omega)]
theorem zI_min {a b : Int} (ha : -2147483648 ≤ a ∧ a < 2147483648) (hb : -2147483648 ≤ b ∧ b < 2147483648) : (if zI b < zI a then zI b else zI a) = zI (min a b) := by
  by_cases h : b < a
  · rw [if_pos ((zI_lt hb ha).mpr h), Int.min_eq_right (Int.le_of_lt h)]
  · rw [if_neg (fun q => h ((zI_lt hb ha).mp q)), Int.min_eq_left (by omega)]
theorem zI_nat {z : Int} (h : 0 ≤ z) : zI z = nI z.toNat := by
  show zI z = zI ((z.toNat : Nat) : Int)
  congr 1
  omega
/-- System.arraycopy of ints -/
theorem x_copyi {F : FX} {cc : ByteArray} {own : String} {tys : List (ClassId × FieldType)} {k n : Nat} {wd : va_W} {lv : List (Nat × Value)} {pc : Nat} {rest : List Value} {i : Nat} (h : FC F cc own tys) (cw : Cond.methodLink own i arraycopyName ∈ UU ∧ Cond.native arraycopyName ∈ UU ∧ Cond.static arraycopyName ∈ UU ∧ Cond.initialized "java/lang/System" ∈ UU) (d : decode cc pc = .ok (.invokestatic i, 3)) (q0 q1 : Nat) {a0 a1 : Nat} {c0 : ClassId} {n0 n1 : Nat} {f g : Nat → Int32} (ha0 : wd[q0]? = some (a0, .inl (c0, n0, .inl f))) (ha1 : wd[q1]? = some (a1, .inl (c0, n1, .inl g))) (ht : tys[0]? = some (c0, .int)) {m : Nat} (hm0 : m ≤ n0) (hm1 : m ≤ n1) (hmb : m < 2147483648) (hframes : 1 ≤ (fx_R F).frames) (hlocals : (rest.map fun v => v.category).sum + (nativeFrameWords "java/lang/System" "arraycopy" 5 + 11) ≤ (fx_R F).locals)
    (wd' : va_W) (hw : wd.set q1 (a1, .inl (c0, n1, .inl (va_cpy f g 0 0 m))) = wd') (kk : XW F k n wd' lv (pc + 3) rest) : XW F k n wd lv pc (.int (nI m) :: .int (nI 0) :: .ref a1 :: .int (nI 0) :: .ref a0 :: rest) := by
  intro H L ls hP hD hS hl
  subst hw
  have e0 : (nI 0).toNatClampNeg = 0 := nI_clamp (by decide)
  have em : (nI m).toNatClampNeg = m := nI_clamp hmb
  refine va_copyi h.1 h.2.1 (by rw [h.2.2.1]; exact hl.1.symm) h.2.2.2.1 (h.2.2.2.2.1 _ cw.1) (h.2.2.2.2.1 _ cw.2.1) (h.2.2.2.2.1 _ cw.2.2.1) (h.2.2.2.2.1 _ cw.2.2.2) h.2.2.2.2.2.1 hP hD hS q0 q1 0 0 ha0 ha1 ht ht rfl (nI_pos (by decide)) (nI_pos (by decide)) (nI_pos hmb) (by rw [e0, em]; omega) (by rw [e0, em]; omega) (fun _ _ => rfl) hframes hlocals d (fun H1 L1 hP1 hD1 hS1 => ?_)
  rw [e0, em] at hP1 hD1
  exact kk H1 L1 ls hP1 hD1 hS1 hl
theorem isAns_F {x : Int32} (h1 : ¬ x = 0) (h2 : ¬ x = nI 1) : isI 2 x = false := by
  cases hq : isI 2 x with
  | false => rfl
  | true =>
    exfalso
    obtain ⟨v, hv, rfl⟩ := isI_T hq
    rcases (show v = 0 ∨ v = 1 by omega) with rfl | rfl
    · exact h1 rfl
    · exact h2 rfl

set_option maxHeartbeats 4000000 in
set_option maxRecDepth 100000 in
theorem c_X4_isQuestion {l : Launch} {D : va_G} {c : Nat → ClassId} {x : Int32} : KI l D (tyE c) w0 yX4_isQuestion cX4_isQuestion 1 .boolean (rmL 1) [.int x] () (fun r u => r = bz (isI 16 x) ∧ u = ()) := by
  refine x_enterI (by decide) (Nat.le_of_ble_eq_true rfl) (fun F hl hD hn hRm hC hR => ?_)
  subst hl hD
  change XW F 0 0 (w0 ()) [(0, .int x)] 0 []
  change FC F cX4_isQuestion RX4 (tyE c) at hC
  refine x_iload_n hC 0 rfl dX4_isQuestion_0 ?_
  refine x_if_lt hC 14 dX4_isQuestion_1 rfl (fun h1 => ?_) (fun h1 => ?_)
  · -- 1 T
    refine x_iconst hC (v := (nI 0)) dX4_isQuestion_14 rfl ?_
    exact x_zret hC hR dX4_isQuestion_15 rfl (⟨by first | exact isI_f0 h1 | exact isI_f1 (by decide) h7 | exact isI_t1 (by decide) h1 h7, rfl⟩)
  · -- 1 F
    refine x_iload_n hC 0 rfl dX4_isQuestion_4 ?_
    refine x_bipush hC (v := (nI 16)) dX4_isQuestion_5 rfl ?_
    refine x_icmp_ge hC 14 dX4_isQuestion_7 rfl (fun h7 => ?_) (fun h7 => ?_)
    · -- 7 T
      refine x_iconst hC (v := (nI 0)) dX4_isQuestion_14 rfl ?_
      exact x_zret hC hR dX4_isQuestion_15 rfl (⟨by first | exact isI_f0 h1 | exact isI_f1 (by decide) h7 | exact isI_t1 (by decide) h1 h7, rfl⟩)
    · -- 7 F
      refine x_iconst hC (v := (nI 1)) dX4_isQuestion_10 rfl ?_
      refine x_goto hC 15 dX4_isQuestion_11 rfl ?_
      exact x_zret hC hR dX4_isQuestion_15 rfl (⟨by first | exact isI_f0 h1 | exact isI_f1 (by decide) h7 | exact isI_t1 (by decide) h1 h7, rfl⟩)
set_option maxHeartbeats 4000000 in
set_option maxRecDepth 100000 in
theorem c_X4_isAnswer {l : Launch} {D : va_G} {c : Nat → ClassId} {x : Int32} : KI l D (tyE c) w0 yX4_isAnswer cX4_isAnswer 1 .boolean (rmL 1) [.int x] () (fun r u => r = bz (isI 2 x) ∧ u = ()) := by
  refine x_enterI (by decide) (Nat.le_of_ble_eq_true rfl) (fun F hl hD hn hRm hC hR => ?_)
  subst hl hD
  change XW F 0 0 (w0 ()) [(0, .int x)] 0 []
  change FC F cX4_isAnswer RX4 (tyE c) at hC
  refine x_iload_n hC 0 rfl dX4_isAnswer_0 ?_
  refine x_if_eq hC 9 dX4_isAnswer_1 rfl (fun h1 => ?_) (fun h1 => ?_)
  · -- 1 T
    refine x_iconst hC (v := (nI 1)) dX4_isAnswer_9 rfl ?_
    refine x_goto hC 14 dX4_isAnswer_10 rfl ?_
    exact x_zret hC hR dX4_isAnswer_14 rfl (⟨by rw [h1]; decide, rfl⟩)
  · -- 1 F
    refine x_iload_n hC 0 rfl dX4_isAnswer_4 ?_
    refine x_iconst hC (v := (nI 1)) dX4_isAnswer_5 rfl ?_
    refine x_icmp_ne hC 13 dX4_isAnswer_6 rfl (fun h6 => ?_) (fun h6 => ?_)
    · -- 6 T
      refine x_iconst hC (v := (nI 0)) dX4_isAnswer_13 rfl ?_
      exact x_zret hC hR dX4_isAnswer_14 rfl (⟨by rw [isAns_F h1 h6]; rfl, rfl⟩)
    · -- 6 F
      refine x_iconst hC (v := (nI 1)) dX4_isAnswer_9 rfl ?_
      refine x_goto hC 14 dX4_isAnswer_10 rfl ?_
      exact x_zret hC hR dX4_isAnswer_14 rfl (⟨by rw [h6]; decide, rfl⟩)
set_option maxHeartbeats 4000000 in
set_option maxRecDepth 100000 in
theorem c_X4_keep {l : Launch} {D : va_G} {c : Nat → ClassId} {a : Nat → Nat} {μ : Me} {q g : Nat} {sn : Nat → Bool} {pm : Nat} (h16 : ∀ q, q < 16 → μ 16 q = bz (sn q)) (h4 : μ 0 4 = nI pm) (hq : q < 16) : KV l D (tyE c) (xw c a) yX4_keep cX4_keep 3 (rmL 1) [.ref (a 4), .int (nI q), .int (nI g)] μ (fun u => (sn q = true ∧ u = μ) ∨ (sn q = false ∧ u = up (up (up (up μ 16 q (nI 1)) 17 q (nI g)) 0 4 (nI (pm + 1))) 0 5 (nI 0))) := by
  refine x_enterV (by decide) (Nat.le_of_ble_eq_true rfl) (fun F hl hD hn hRm hC hR => ?_)
  subst hl hD
  change XW F 0 0 (xw c a μ) [(0, .ref (a 4)), (1, .int (nI q)), (2, .int (nI g))] 0 []
  change FC F cX4_keep RX4 (tyE c) at hC
  refine x_aload_n hC 0 rfl dX4_keep_0 ?_
  refine x_get hC fl_X4_13 dX4_keep_1 4 rfl rfl ?_
  refine x_iload_n hC 1 rfl dX4_keep_4 ?_
  refine x_zald hC 16 1 rfl rfl (y := (bz (sn q))) (by omega) (by decide) (h16 q (by omega)) dX4_keep_5 ?_
  refine x_if_neB hC 38 dX4_keep_6 rfl (fun h6 => ?_) (fun h6 => ?_)
  · -- 6 T
    exact x_vret hC hR dX4_keep_38 (Or.inl ⟨h6, rfl⟩)
  · -- 6 F
    refine x_aload_n hC 0 rfl dX4_keep_9 ?_
    refine x_get hC fl_X4_13 dX4_keep_10 4 rfl rfl ?_
    refine x_iload_n hC 1 rfl dX4_keep_13 ?_
    refine x_iconst hC (v := (nI 1)) dX4_keep_14 rfl ?_
    refine x_zast hC 16 1 rfl rfl (by omega) (by decide) rfl (xw c a (up μ 16 q (nI 1))) rfl dX4_keep_15 ?_
    refine x_aload_n hC 0 rfl dX4_keep_16 ?_
    refine x_get hC fl_X4_17 dX4_keep_17 4 rfl rfl ?_
    refine x_iload_n hC 1 rfl dX4_keep_20 ?_
    refine x_iload_n hC 2 rfl dX4_keep_21 ?_
    refine x_iast hC 17 0 rfl rfl (by omega) (by decide) (xw c a (up (up μ 16 q (nI 1)) 17 q (nI g))) rfl dX4_keep_22 ?_
    refine x_aload_n hC 0 rfl dX4_keep_23 ?_
    refine x_dup hC rfl dX4_keep_24 ?_
    refine x_get hC fl_X4_9 dX4_keep_25 4 rfl (v := .int (nI pm)) (xv h4) ?_
    refine x_iconst hC (v := (nI 1)) dX4_keep_28 rfl ?_
    refine x_iaddE hC (z := (nI (pm + 1))) (nI_add _ _) dX4_keep_29 ?_
    refine x_put hC fp_X4_9 dX4_keep_30 4 rfl rfl rfl (Nat.le_of_ble_eq_true rfl) (xw c a (up (up (up μ 16 q (nI 1)) 17 q (nI g)) 0 4 (nI (pm + 1)))) rfl ?_
    refine x_aload_n hC 0 rfl dX4_keep_33 ?_
    refine x_iconst hC (v := (nI 0)) dX4_keep_34 rfl ?_
    refine x_put hC fp_X4_24 dX4_keep_35 4 rfl rfl rfl (Nat.le_of_ble_eq_true rfl) (xw c a (up (up (up (up μ 16 q (nI 1)) 17 q (nI g)) 0 4 (nI (pm + 1))) 0 5 (nI 0))) rfl ?_
    exact x_vret hC hR dX4_keep_38 (Or.inr ⟨h6, rfl⟩)
set_option maxHeartbeats 4000000 in
set_option maxRecDepth 100000 in
theorem c_X4_usedOnes {l : Launch} {D : va_G} {c : Nat → ClassId} {a : Nat → Nat} {μ : Me} {us : Nat → Bool} (h18 : ∀ q, q < 16 → μ 18 q = bz (us q)) : KI l D (tyE c) (xw c a) yX4_usedOnes cX4_usedOnes 3 .int (rmL 1) [.ref (a 4)] μ (fun r u => r = nI (sumN (fun j => if us j then 1 else 0) 16) ∧ μ = u) := by
  refine x_enterI (by decide) (Nat.le_of_ble_eq_true rfl) (fun F hl hD hn hRm hC hR => ?_)
  subst hl hD
  change XW F 0 0 (xw c a μ) [(0, .ref (a 4))] 0 []
  change FC F cX4_usedOnes RX4 (tyE c) at hC
  refine x_iconst hC (v := (nI 0)) dX4_usedOnes_0 rfl ?_
  refine x_istore_n hC [(1, .int (nI 0)), (0, .ref (a 4))] rfl (lt_n hn rfl) dX4_usedOnes_1 ?_
  refine x_iconst hC (v := (nI 0)) dX4_usedOnes_2 rfl ?_
  refine x_istore_n hC [(2, .int (nI 0)), (1, .int (nI 0)), (0, .ref (a 4))] rfl (lt_n hn rfl) dX4_usedOnes_3 ?_
  refine x_lv [2, 1, 0] rfl ?_
  have L4 : ∀ (N4 : Nat) (s : Nat) (i : Nat), 16 - i < N4 → (s = sumN (fun j => if us j then 1 else 0) i) → (i ≤ 16) → XW F 0 0 (xw c a μ) [(0, .ref (a 4)), (1, .int (nI s)), (2, .int (nI i))] 4 [] := by
    intro N4
    induction N4 with
    | zero => intro s i hN4 hs hi; exact absurd hN4 (by omega)
    | succ N4 ih4 =>
      intro s i hN4 hs hi
      refine x_iload_n hC 2 rfl dX4_usedOnes_4 ?_
      refine x_bipush hC (v := (nI 16)) dX4_usedOnes_5 rfl ?_
      refine x_icmp_geN hC 33 dX4_usedOnes_7 rfl (by omega) (by decide) (fun h7 => ?_) (fun h7 => ?_)
      · -- 7 T
        refine x_iload_n hC 1 rfl dX4_usedOnes_33 ?_
        exact x_iret hC hR dX4_usedOnes_34 (⟨by rw [hs, show i = 16 by omega], rfl⟩)
      · -- 7 F
        refine x_iload_n hC 1 rfl dX4_usedOnes_10 ?_
        refine x_aload_n hC 0 rfl dX4_usedOnes_11 ?_
        refine x_get hC fl_X4_21 dX4_usedOnes_12 4 rfl rfl ?_
        refine x_iload_n hC 2 rfl dX4_usedOnes_15 ?_
        refine x_zald hC 18 1 rfl rfl (y := (bz (us i))) (by omega) (by decide) (h18 i (by omega)) dX4_usedOnes_16 ?_
        refine x_if_eqB hC 24 dX4_usedOnes_17 rfl (fun h17 => ?_) (fun h17 => ?_)
        · -- 17 T
          refine x_iconst hC (v := (nI 0)) dX4_usedOnes_24 rfl ?_
          refine x_iaddE hC (z := (nI (s + 0))) (nI_add _ _) dX4_usedOnes_25 ?_
          refine x_istore_n hC [(1, .int (nI (s + 0))), (0, .ref (a 4)), (2, .int (nI i))] rfl (lt_n hn rfl) dX4_usedOnes_26 ?_
          refine x_iinc hC (z := 1) (v := (nI (i + 1))) 2 rfl (nI_add i 1) [(2, .int (nI (i + 1))), (1, .int (nI (s + 0))), (0, .ref (a 4))] rfl (lt_n hn rfl) dX4_usedOnes_27 ?_
          refine x_goto hC 4 dX4_usedOnes_30 rfl ?_
          refine x_lv [2, 1, 0] rfl ?_
          exact ih4 (s + 0) (i + 1) (by omega) (by rw [hs]; simp [sumN, h17]) (by omega)
        · -- 17 F
          refine x_iconst hC (v := (nI 1)) dX4_usedOnes_20 rfl ?_
          refine x_goto hC 25 dX4_usedOnes_21 rfl ?_
          refine x_iaddE hC (z := (nI (s + 1))) (nI_add _ _) dX4_usedOnes_25 ?_
          refine x_istore_n hC [(1, .int (nI (s + 1))), (0, .ref (a 4)), (2, .int (nI i))] rfl (lt_n hn rfl) dX4_usedOnes_26 ?_
          refine x_iinc hC (z := 1) (v := (nI (i + 1))) 2 rfl (nI_add i 1) [(2, .int (nI (i + 1))), (1, .int (nI (s + 1))), (0, .ref (a 4))] rfl (lt_n hn rfl) dX4_usedOnes_27 ?_
          refine x_goto hC 4 dX4_usedOnes_30 rfl ?_
          refine x_lv [2, 1, 0] rfl ?_
          exact ih4 (s + 1) (i + 1) (by omega) (by rw [hs]; simp [sumN, h17]) (by omega)
  exact L4 _ 0 0 (Nat.lt_succ_self _) rfl (by omega)
set_option maxHeartbeats 4000000 in
set_option maxRecDepth 100000 in
theorem c_X4_weigh {l : Launch} {D : va_G} {c : Nat → ClassId} {a : Nat → Nat} {μ : Me} {t : Nat} (ht : t < 2401) : KV l D (tyE c) (xw c a) yX4_weigh cX4_weigh 7 (rmL 1) [.ref (a 4), .int (nI t)] μ (fun u => ∃ f g, u = setc (setc μ 21 f) 22 g ∧ (∀ i, i < 4 → f i = zI (wv t i)) ∧ (∀ q, q < 16 → g q = zI (sm t q))) := by
  refine x_enterV (by decide) (Nat.le_of_ble_eq_true rfl) (fun F hl hD hn hRm hC hR => ?_)
  subst hl hD
  change XW F 0 0 (xw c a μ) [(0, .ref (a 4)), (1, .int (nI t))] 0 []
  change FC F cX4_weigh RX4 (tyE c) at hC
  change XW F 0 0 (xw c a (setc (setc μ 21 (μ 21)) 22 (μ 22))) [(0, .ref (a 4)), (1, .int (nI t))] 0 []
  refine x_iload_n hC 1 rfl dX4_weigh_0 ?_
  refine x_istore_n hC [(2, .int (nI t)), (0, .ref (a 4)), (1, .int (nI t))] rfl (lt_n hn rfl) dX4_weigh_1 ?_
  refine x_iconst hC (v := (nI 0)) dX4_weigh_2 rfl ?_
  refine x_istore_n hC [(3, .int (nI 0)), (2, .int (nI t)), (0, .ref (a 4)), (1, .int (nI t))] rfl (lt_n hn rfl) dX4_weigh_3 ?_
  refine x_iconst hC (v := (nI 3)) dX4_weigh_4 rfl ?_
  refine x_istore hC [(4, .int (nI 3)), (3, .int (nI 0)), (2, .int (nI t)), (0, .ref (a 4)), (1, .int (nI t))] rfl (lt_n hn rfl) dX4_weigh_5 ?_
  refine x_iload hC 0 rfl dX4_weigh_7 ?_
  refine x_if_lt_F hC 46 dX4_weigh_9 rfl (by decide) ?_
  refine x_aload_n hC 3 rfl dX4_weigh_12 ?_
  refine x_get hC fl_X4_37 dX4_weigh_13 4 rfl rfl ?_
  refine x_iload hC 0 rfl dX4_weigh_16 ?_
  refine x_iload_n hC 2 rfl dX4_weigh_18 ?_
  refine x_bipush hC (v := (nI 7)) dX4_weigh_19 rfl ?_
  refine x_iremE hC (z := (nI (t % 7))) (by decide) (pk_rem (by omega) (by decide) (by decide)) dX4_weigh_21 ?_
  refine x_iconst hC (v := (nI 3)) dX4_weigh_22 rfl ?_
  refine x_isubE hC (z := (zI ((((t % 7) : Nat) : Int) - 3))) (zI_sub (((t % 7) : Nat) : Int) 3) dX4_weigh_23 ?_
  refine x_iast hC 21 0 rfl rfl (by decide) (by decide) (xw c a (setc (setc μ 21 (upd (μ 21) 3 (zI ((((t % 7) : Nat) : Int) - 3)))) 22 (μ 22))) rfl dX4_weigh_24 ?_
  refine x_iload_n hC 2 rfl dX4_weigh_25 ?_
  refine x_bipush hC (v := (nI 7)) dX4_weigh_26 rfl ?_
  refine x_idivE hC (z := (nI (t / 7))) (by decide) (pk_div (by omega) (by decide) (by decide)) dX4_weigh_28 ?_
  refine x_istore_n hC [(2, .int (nI (t / 7))), (4, .int (nI 3)), (3, .int (nI 0)), (0, .ref (a 4)), (1, .int (nI t))] rfl (lt_n hn rfl) dX4_weigh_29 ?_
  refine x_iload_n hC 2 rfl dX4_weigh_30 ?_
  refine x_aload_n hC 3 rfl dX4_weigh_31 ?_
  refine x_get hC fl_X4_37 dX4_weigh_32 4 rfl rfl ?_
  refine x_iload hC 1 rfl dX4_weigh_35 ?_
  refine x_iald hC 21 0 rfl rfl (y := (zI ((((t % 7) : Nat) : Int) - 3))) (by decide) (by decide) (rfl) dX4_weigh_37 ?_
  refine x_iaddE hC (z := (zI (0 + ((((t % 7) : Nat) : Int) - 3)))) (zI_add 0 ((((t % 7) : Nat) : Int) - 3)) dX4_weigh_38 ?_
  refine x_istore_n hC [(3, .int (zI (0 + ((((t % 7) : Nat) : Int) - 3)))), (2, .int (nI (t / 7))), (4, .int (nI 3)), (0, .ref (a 4)), (1, .int (nI t))] rfl (lt_n hn rfl) dX4_weigh_39 ?_
  refine x_iinc hC (z := -1) (v := (nI 2)) 2 rfl (by decide) [(4, .int (nI 2)), (3, .int (zI (0 + ((((t % 7) : Nat) : Int) - 3)))), (2, .int (nI (t / 7))), (0, .ref (a 4)), (1, .int (nI t))] rfl (lt_n hn rfl) dX4_weigh_40 ?_
  refine x_goto hC 7 dX4_weigh_43 rfl ?_
  refine x_iload hC 0 rfl dX4_weigh_7 ?_
  refine x_if_lt_F hC 46 dX4_weigh_9 rfl (by decide) ?_
  refine x_aload_n hC 3 rfl dX4_weigh_12 ?_
  refine x_get hC fl_X4_37 dX4_weigh_13 4 rfl rfl ?_
  refine x_iload hC 0 rfl dX4_weigh_16 ?_
  refine x_iload_n hC 2 rfl dX4_weigh_18 ?_
  refine x_bipush hC (v := (nI 7)) dX4_weigh_19 rfl ?_
  refine x_iremE hC (z := (nI ((t / 7) % 7))) (by decide) (pk_rem (by omega) (by decide) (by decide)) dX4_weigh_21 ?_
  refine x_iconst hC (v := (nI 3)) dX4_weigh_22 rfl ?_
  refine x_isubE hC (z := (zI (((((t / 7) % 7) : Nat) : Int) - 3))) (zI_sub ((((t / 7) % 7) : Nat) : Int) 3) dX4_weigh_23 ?_
  refine x_iast hC 21 0 rfl rfl (by decide) (by decide) (xw c a (setc (setc μ 21 (upd (upd (μ 21) 3 (zI ((((t % 7) : Nat) : Int) - 3))) 2 (zI (((((t / 7) % 7) : Nat) : Int) - 3)))) 22 (μ 22))) rfl dX4_weigh_24 ?_
  refine x_iload_n hC 2 rfl dX4_weigh_25 ?_
  refine x_bipush hC (v := (nI 7)) dX4_weigh_26 rfl ?_
  refine x_idivE hC (z := (nI ((t / 7) / 7))) (by decide) (pk_div (by omega) (by decide) (by decide)) dX4_weigh_28 ?_
  refine x_istore_n hC [(2, .int (nI ((t / 7) / 7))), (4, .int (nI 2)), (3, .int (zI (0 + ((((t % 7) : Nat) : Int) - 3)))), (0, .ref (a 4)), (1, .int (nI t))] rfl (lt_n hn rfl) dX4_weigh_29 ?_
  refine x_iload_n hC 2 rfl dX4_weigh_30 ?_
  refine x_aload_n hC 3 rfl dX4_weigh_31 ?_
  refine x_get hC fl_X4_37 dX4_weigh_32 4 rfl rfl ?_
  refine x_iload hC 1 rfl dX4_weigh_35 ?_
  refine x_iald hC 21 0 rfl rfl (y := (zI (((((t / 7) % 7) : Nat) : Int) - 3))) (by decide) (by decide) (rfl) dX4_weigh_37 ?_
  refine x_iaddE hC (z := (zI ((0 + ((((t % 7) : Nat) : Int) - 3)) + (((((t / 7) % 7) : Nat) : Int) - 3)))) (zI_add (0 + ((((t % 7) : Nat) : Int) - 3)) (((((t / 7) % 7) : Nat) : Int) - 3)) dX4_weigh_38 ?_
  refine x_istore_n hC [(3, .int (zI ((0 + ((((t % 7) : Nat) : Int) - 3)) + (((((t / 7) % 7) : Nat) : Int) - 3)))), (2, .int (nI ((t / 7) / 7))), (4, .int (nI 2)), (0, .ref (a 4)), (1, .int (nI t))] rfl (lt_n hn rfl) dX4_weigh_39 ?_
  refine x_iinc hC (z := -1) (v := (nI 1)) 2 rfl (by decide) [(4, .int (nI 1)), (3, .int (zI ((0 + ((((t % 7) : Nat) : Int) - 3)) + (((((t / 7) % 7) : Nat) : Int) - 3)))), (2, .int (nI ((t / 7) / 7))), (0, .ref (a 4)), (1, .int (nI t))] rfl (lt_n hn rfl) dX4_weigh_40 ?_
  refine x_goto hC 7 dX4_weigh_43 rfl ?_
  refine x_iload hC 0 rfl dX4_weigh_7 ?_
  refine x_if_lt_F hC 46 dX4_weigh_9 rfl (by decide) ?_
  refine x_aload_n hC 3 rfl dX4_weigh_12 ?_
  refine x_get hC fl_X4_37 dX4_weigh_13 4 rfl rfl ?_
  refine x_iload hC 0 rfl dX4_weigh_16 ?_
  refine x_iload_n hC 2 rfl dX4_weigh_18 ?_
  refine x_bipush hC (v := (nI 7)) dX4_weigh_19 rfl ?_
  refine x_iremE hC (z := (nI (((t / 7) / 7) % 7))) (by decide) (pk_rem (by omega) (by decide) (by decide)) dX4_weigh_21 ?_
  refine x_iconst hC (v := (nI 3)) dX4_weigh_22 rfl ?_
  refine x_isubE hC (z := (zI ((((((t / 7) / 7) % 7) : Nat) : Int) - 3))) (zI_sub (((((t / 7) / 7) % 7) : Nat) : Int) 3) dX4_weigh_23 ?_
  refine x_iast hC 21 0 rfl rfl (by decide) (by decide) (xw c a (setc (setc μ 21 (upd (upd (upd (μ 21) 3 (zI ((((t % 7) : Nat) : Int) - 3))) 2 (zI (((((t / 7) % 7) : Nat) : Int) - 3))) 1 (zI ((((((t / 7) / 7) % 7) : Nat) : Int) - 3)))) 22 (μ 22))) rfl dX4_weigh_24 ?_
  refine x_iload_n hC 2 rfl dX4_weigh_25 ?_
  refine x_bipush hC (v := (nI 7)) dX4_weigh_26 rfl ?_
  refine x_idivE hC (z := (nI (((t / 7) / 7) / 7))) (by decide) (pk_div (by omega) (by decide) (by decide)) dX4_weigh_28 ?_
  refine x_istore_n hC [(2, .int (nI (((t / 7) / 7) / 7))), (4, .int (nI 1)), (3, .int (zI ((0 + ((((t % 7) : Nat) : Int) - 3)) + (((((t / 7) % 7) : Nat) : Int) - 3)))), (0, .ref (a 4)), (1, .int (nI t))] rfl (lt_n hn rfl) dX4_weigh_29 ?_
  refine x_iload_n hC 2 rfl dX4_weigh_30 ?_
  refine x_aload_n hC 3 rfl dX4_weigh_31 ?_
  refine x_get hC fl_X4_37 dX4_weigh_32 4 rfl rfl ?_
  refine x_iload hC 1 rfl dX4_weigh_35 ?_
  refine x_iald hC 21 0 rfl rfl (y := (zI ((((((t / 7) / 7) % 7) : Nat) : Int) - 3))) (by decide) (by decide) (rfl) dX4_weigh_37 ?_
  refine x_iaddE hC (z := (zI (((0 + ((((t % 7) : Nat) : Int) - 3)) + (((((t / 7) % 7) : Nat) : Int) - 3)) + ((((((t / 7) / 7) % 7) : Nat) : Int) - 3)))) (zI_add ((0 + ((((t % 7) : Nat) : Int) - 3)) + (((((t / 7) % 7) : Nat) : Int) - 3)) ((((((t / 7) / 7) % 7) : Nat) : Int) - 3)) dX4_weigh_38 ?_
  refine x_istore_n hC [(3, .int (zI (((0 + ((((t % 7) : Nat) : Int) - 3)) + (((((t / 7) % 7) : Nat) : Int) - 3)) + ((((((t / 7) / 7) % 7) : Nat) : Int) - 3)))), (2, .int (nI (((t / 7) / 7) / 7))), (4, .int (nI 1)), (0, .ref (a 4)), (1, .int (nI t))] rfl (lt_n hn rfl) dX4_weigh_39 ?_
  refine x_iinc hC (z := -1) (v := (nI 0)) 2 rfl (by decide) [(4, .int (nI 0)), (3, .int (zI (((0 + ((((t % 7) : Nat) : Int) - 3)) + (((((t / 7) % 7) : Nat) : Int) - 3)) + ((((((t / 7) / 7) % 7) : Nat) : Int) - 3)))), (2, .int (nI (((t / 7) / 7) / 7))), (0, .ref (a 4)), (1, .int (nI t))] rfl (lt_n hn rfl) dX4_weigh_40 ?_
  refine x_goto hC 7 dX4_weigh_43 rfl ?_
  refine x_iload hC 0 rfl dX4_weigh_7 ?_
  refine x_if_lt_F hC 46 dX4_weigh_9 rfl (by decide) ?_
  refine x_aload_n hC 3 rfl dX4_weigh_12 ?_
  refine x_get hC fl_X4_37 dX4_weigh_13 4 rfl rfl ?_
  refine x_iload hC 0 rfl dX4_weigh_16 ?_
  refine x_iload_n hC 2 rfl dX4_weigh_18 ?_
  refine x_bipush hC (v := (nI 7)) dX4_weigh_19 rfl ?_
  refine x_iremE hC (z := (nI ((((t / 7) / 7) / 7) % 7))) (by decide) (pk_rem (by omega) (by decide) (by decide)) dX4_weigh_21 ?_
  refine x_iconst hC (v := (nI 3)) dX4_weigh_22 rfl ?_
  refine x_isubE hC (z := (zI (((((((t / 7) / 7) / 7) % 7) : Nat) : Int) - 3))) (zI_sub ((((((t / 7) / 7) / 7) % 7) : Nat) : Int) 3) dX4_weigh_23 ?_
  refine x_iast hC 21 0 rfl rfl (by decide) (by decide) (xw c a (setc (setc μ 21 (upd (upd (upd (upd (μ 21) 3 (zI ((((t % 7) : Nat) : Int) - 3))) 2 (zI (((((t / 7) % 7) : Nat) : Int) - 3))) 1 (zI ((((((t / 7) / 7) % 7) : Nat) : Int) - 3))) 0 (zI (((((((t / 7) / 7) / 7) % 7) : Nat) : Int) - 3)))) 22 (μ 22))) rfl dX4_weigh_24 ?_
  refine x_iload_n hC 2 rfl dX4_weigh_25 ?_
  refine x_bipush hC (v := (nI 7)) dX4_weigh_26 rfl ?_
  refine x_idivE hC (z := (nI ((((t / 7) / 7) / 7) / 7))) (by decide) (pk_div (by omega) (by decide) (by decide)) dX4_weigh_28 ?_
  refine x_istore_n hC [(2, .int (nI ((((t / 7) / 7) / 7) / 7))), (4, .int (nI 0)), (3, .int (zI (((0 + ((((t % 7) : Nat) : Int) - 3)) + (((((t / 7) % 7) : Nat) : Int) - 3)) + ((((((t / 7) / 7) % 7) : Nat) : Int) - 3)))), (0, .ref (a 4)), (1, .int (nI t))] rfl (lt_n hn rfl) dX4_weigh_29 ?_
  refine x_iload_n hC 2 rfl dX4_weigh_30 ?_
  refine x_aload_n hC 3 rfl dX4_weigh_31 ?_
  refine x_get hC fl_X4_37 dX4_weigh_32 4 rfl rfl ?_
  refine x_iload hC 1 rfl dX4_weigh_35 ?_
  refine x_iald hC 21 0 rfl rfl (y := (zI (((((((t / 7) / 7) / 7) % 7) : Nat) : Int) - 3))) (by decide) (by decide) (rfl) dX4_weigh_37 ?_
  refine x_iaddE hC (z := (zI ((((0 + ((((t % 7) : Nat) : Int) - 3)) + (((((t / 7) % 7) : Nat) : Int) - 3)) + ((((((t / 7) / 7) % 7) : Nat) : Int) - 3)) + (((((((t / 7) / 7) / 7) % 7) : Nat) : Int) - 3)))) (zI_add (((0 + ((((t % 7) : Nat) : Int) - 3)) + (((((t / 7) % 7) : Nat) : Int) - 3)) + ((((((t / 7) / 7) % 7) : Nat) : Int) - 3)) (((((((t / 7) / 7) / 7) % 7) : Nat) : Int) - 3)) dX4_weigh_38 ?_
  refine x_istore_n hC [(3, .int (zI ((((0 + ((((t % 7) : Nat) : Int) - 3)) + (((((t / 7) % 7) : Nat) : Int) - 3)) + ((((((t / 7) / 7) % 7) : Nat) : Int) - 3)) + (((((((t / 7) / 7) / 7) % 7) : Nat) : Int) - 3)))), (2, .int (nI ((((t / 7) / 7) / 7) / 7))), (4, .int (nI 0)), (0, .ref (a 4)), (1, .int (nI t))] rfl (lt_n hn rfl) dX4_weigh_39 ?_
  refine x_iinc hC (z := -1) (v := (zI (-1))) 2 rfl (by decide) [(4, .int (zI (-1))), (3, .int (zI ((((0 + ((((t % 7) : Nat) : Int) - 3)) + (((((t / 7) % 7) : Nat) : Int) - 3)) + ((((((t / 7) / 7) % 7) : Nat) : Int) - 3)) + (((((((t / 7) / 7) / 7) % 7) : Nat) : Int) - 3)))), (2, .int (nI ((((t / 7) / 7) / 7) / 7))), (0, .ref (a 4)), (1, .int (nI t))] rfl (lt_n hn rfl) dX4_weigh_40 ?_
  refine x_goto hC 7 dX4_weigh_43 rfl ?_
  refine x_iload hC 0 rfl dX4_weigh_7 ?_
  refine x_if_lt_T hC 46 dX4_weigh_9 rfl (by decide) ?_
  have h343 : t / 343 < 7 := by omega
  obtain ⟨f, hfw, e_f⟩ : ∃ f : Nat → Int32, (∀ i, i < 4 → f i = zI (wv t i)) ∧ f = (upd (upd (upd (upd (μ 21) 3 (zI ((((t % 7) : Nat) : Int) - 3))) 2 (zI (((((t / 7) % 7) : Nat) : Int) - 3))) 1 (zI ((((((t / 7) / 7) % 7) : Nat) : Int) - 3))) 0 (zI (((((((t / 7) / 7) / 7) % 7) : Nat) : Int) - 3))) := ⟨_, fun i hi => by rcases (show i = 0 ∨ i = 1 ∨ i = 2 ∨ i = 3 by omega) with rfl | rfl | rfl | rfl <;> simp [upd, wv, Nat.div_div_eq_div_mul, Nat.mod_eq_of_lt h343], rfl⟩
  refine x_wd (show xw c a (setc (setc μ 21 (upd (upd (upd (upd (μ 21) 3 (zI ((((t % 7) : Nat) : Int) - 3))) 2 (zI (((((t / 7) % 7) : Nat) : Int) - 3))) 1 (zI ((((((t / 7) / 7) % 7) : Nat) : Int) - 3))) 0 (zI (((((((t / 7) / 7) / 7) % 7) : Nat) : Int) - 3)))) 22 (μ 22)) = xw c a (setc (setc μ 21 f) 22 (μ 22)) by rw [e_f]) ?_
  refine x_aload_n hC 3 rfl dX4_weigh_46 ?_
  refine x_get hC fl_X4_40 dX4_weigh_47 4 rfl rfl ?_
  refine x_iconst hC (v := (nI 0)) dX4_weigh_50 rfl ?_
  refine x_iload_n hC 1 rfl dX4_weigh_51 ?_
  refine x_inegE hC (z := (zI (-((((0 + ((((t % 7) : Nat) : Int) - 3)) + (((((t / 7) % 7) : Nat) : Int) - 3)) + ((((((t / 7) / 7) % 7) : Nat) : Int) - 3)) + (((((((t / 7) / 7) / 7) % 7) : Nat) : Int) - 3))))) (zI_neg ((((0 + ((((t % 7) : Nat) : Int) - 3)) + (((((t / 7) % 7) : Nat) : Int) - 3)) + ((((((t / 7) / 7) % 7) : Nat) : Int) - 3)) + (((((((t / 7) / 7) / 7) % 7) : Nat) : Int) - 3))) dX4_weigh_52 ?_
  refine x_iast hC 22 0 rfl rfl (by decide) (by decide) (xw c a (setc (setc μ 21 f) 22 (upd (μ 22) 0 (zI (-((((0 + ((((t % 7) : Nat) : Int) - 3)) + (((((t / 7) % 7) : Nat) : Int) - 3)) + ((((((t / 7) / 7) % 7) : Nat) : Int) - 3)) + (((((((t / 7) / 7) / 7) % 7) : Nat) : Int) - 3))))))) rfl dX4_weigh_53 ?_
  refine x_iconst hC (v := (nI 0)) dX4_weigh_54 rfl ?_
  refine x_istore hC [(4, .int (nI 0)), (3, .int (zI ((((0 + ((((t % 7) : Nat) : Int) - 3)) + (((((t / 7) % 7) : Nat) : Int) - 3)) + ((((((t / 7) / 7) % 7) : Nat) : Int) - 3)) + (((((((t / 7) / 7) / 7) % 7) : Nat) : Int) - 3)))), (2, .int (nI ((((t / 7) / 7) / 7) / 7))), (0, .ref (a 4)), (1, .int (nI t))] rfl (lt_n hn rfl) dX4_weigh_55 ?_
  refine x_lv [3, 0] rfl ?_
  have L57 : ∀ (N57 : Nat) (g : Nat → Int32) (i : Nat), 4 - i < N57 → (i ≤ 4) → (∀ q, q < 2 ^ i → g q = zI (psm (wv t) q i)) → XW F 0 0 (xw c a (setc (setc μ 21 f) 22 g)) [(0, .ref (a 4)), (4, .int (nI i))] 57 [] := by
    intro N57
    induction N57 with
    | zero => intro g i hN57 hi hg; exact absurd hN57 (by omega)
    | succ N57 ih57 =>
      intro g i hN57 hi hg
      refine x_iload hC 1 rfl dX4_weigh_57 ?_
      refine x_iconst hC (v := (nI 4)) dX4_weigh_59 rfl ?_
      refine x_icmp_geN hC 118 dX4_weigh_60 rfl (by omega) (by decide) (fun h60 => ?_) (fun h60 => ?_)
      · -- 60 T
        exact x_vret hC hR dX4_weigh_118 (⟨f, g, rfl, hfw, fun q h => by rw [hg q (by rw [show i = 4 by omega]; exact h), show i = 4 by omega, psm_smx]; rfl⟩)
      · -- 60 F
        have hp : 2 ^ i ≤ 2 ^ 3 := Nat.pow_le_pow_right (by decide) (by omega)
        refine x_iconst hC (v := (nI 1)) dX4_weigh_63 rfl ?_
        refine x_iload hC 1 rfl dX4_weigh_64 ?_
        refine x_ishlE hC (z := (nI (2 ^ i))) (nI_shl1 (by omega)) dX4_weigh_66 ?_
        refine x_istore hC [(5, .int (nI (2 ^ i))), (0, .ref (a 4)), (4, .int (nI i))] rfl (lt_n hn rfl) dX4_weigh_67 ?_
        refine x_iconst hC (v := (nI 0)) dX4_weigh_69 rfl ?_
        refine x_istore hC [(6, .int (nI 0)), (5, .int (nI (2 ^ i))), (0, .ref (a 4)), (4, .int (nI i))] rfl (lt_n hn rfl) dX4_weigh_70 ?_
        refine x_lv [2, 3, 1, 0] rfl ?_
        have L72 : ∀ (N72 : Nat) (g2 : Nat → Int32) (j : Nat), 2 ^ i - j < N72 → (j ≤ 2 ^ i) → (∀ q, q < 2 ^ i → g2 q = zI (psm (wv t) q i)) → (∀ q, q < j → g2 (2 ^ i + q) = zI (psm (wv t) q i + 2 * wv t i)) → XW F 0 0 (xw c a (setc (setc μ 21 f) 22 g2)) [(0, .ref (a 4)), (4, .int (nI i)), (5, .int (nI (2 ^ i))), (6, .int (nI j))] 72 [] := by
          intro N72
          induction N72 with
          | zero => intro g2 j hN72 hj hg1 hg2; exact absurd hN72 (by omega)
          | succ N72 ih72 =>
            intro g2 j hN72 hj hg1 hg2
            refine x_iload hC 3 rfl dX4_weigh_72 ?_
            refine x_iload hC 2 rfl dX4_weigh_74 ?_
            refine x_icmp_geN hC 112 dX4_weigh_76 rfl (by omega) (by omega) (fun h76 => ?_) (fun h76 => ?_)
            · -- 76 T
              refine x_iinc hC (z := 1) (v := (nI (i + 1))) 1 rfl (nI_add i 1) [(4, .int (nI (i + 1))), (0, .ref (a 4)), (5, .int (nI (2 ^ i))), (6, .int (nI j))] rfl (lt_n hn rfl) dX4_weigh_112 ?_
              refine x_goto hC 57 dX4_weigh_115 rfl ?_
              refine x_lv [1, 0] rfl ?_
              exact ih57 g2 (i + 1) (by omega) (by omega) (psm_next hg1 (fun q hq => hg2 q (by omega)))
            · -- 76 F
              refine x_aload_n hC 0 rfl dX4_weigh_79 ?_
              refine x_get hC fl_X4_40 dX4_weigh_80 4 rfl rfl ?_
              refine x_iload hC 2 rfl dX4_weigh_83 ?_
              refine x_iload hC 3 rfl dX4_weigh_85 ?_
              refine x_iaddE hC (z := (nI ((2 ^ i) + j))) (nI_add _ _) dX4_weigh_87 ?_
              refine x_aload_n hC 0 rfl dX4_weigh_88 ?_
              refine x_get hC fl_X4_40 dX4_weigh_89 4 rfl rfl ?_
              refine x_iload hC 3 rfl dX4_weigh_92 ?_
              refine x_iald hC 22 0 rfl rfl (y := (zI (psm (wv t) j i))) (by omega) (by decide) (hg1 j (by omega)) dX4_weigh_94 ?_
              refine x_iconst hC (v := (nI 2)) dX4_weigh_95 rfl ?_
              refine x_aload_n hC 0 rfl dX4_weigh_96 ?_
              refine x_get hC fl_X4_37 dX4_weigh_97 4 rfl rfl ?_
              refine x_iload hC 1 rfl dX4_weigh_100 ?_
              refine x_iald hC 21 0 rfl rfl (y := (zI (wv t i))) (by omega) (by decide) (hfw i (by omega)) dX4_weigh_102 ?_
              refine x_imulE hC (z := (zI (2 * (wv t i)))) (zI_mul 2 (wv t i)) dX4_weigh_103 ?_
              refine x_iaddE hC (z := (zI ((psm (wv t) j i) + (2 * (wv t i))))) (zI_add (psm (wv t) j i) (2 * (wv t i))) dX4_weigh_104 ?_
              refine x_iast hC 22 0 rfl rfl (by omega) (by decide) (xw c a (setc (setc μ 21 f) 22 (upd g2 ((2 ^ i) + j) (zI ((psm (wv t) j i) + (2 * (wv t i))))))) rfl dX4_weigh_105 ?_
              refine x_iinc hC (z := 1) (v := (nI (j + 1))) 3 rfl (nI_add j 1) [(6, .int (nI (j + 1))), (0, .ref (a 4)), (4, .int (nI i)), (5, .int (nI (2 ^ i)))] rfl (lt_n hn rfl) dX4_weigh_106 ?_
              refine x_goto hC 72 dX4_weigh_109 rfl ?_
              refine x_lv [1, 2, 3, 0] rfl ?_
              exact ih72 (upd g2 (2 ^ i + j) (zI (psm (wv t) j i + 2 * wv t i))) (j + 1) (by omega) (by omega) (fun q h => by rw [upd_n (by omega)]; exact hg1 q h) (upd_sh (Q := fun q v => v = zI (psm (wv t) q i + 2 * wv t i)) hg2 rfl)
        exact L72 _ g 0 (Nat.lt_succ_self _) (Nat.zero_le _) hg (fun q h => absurd h (by omega))
  exact L57 _ (upd (μ 22) 0 (zI (-((((0 + ((((t % 7) : Nat) : Int) - 3)) + (((((t / 7) % 7) : Nat) : Int) - 3)) + ((((((t / 7) / 7) % 7) : Nat) : Int) - 3)) + (((((((t / 7) / 7) / 7) % 7) : Nat) : Int) - 3))))) 0 (Nat.lt_succ_self _) (by omega) (fun q hq => by rw [show q = 0 by omega]; simp [upd, psm, wv, Nat.div_div_eq_div_mul, Nat.mod_eq_of_lt h343])
set_option maxHeartbeats 4000000 in
set_option maxRecDepth 100000 in
theorem c_X4_leastLimit {l : Launch} {D : va_G} {c : Nat → ClassId} {a : Nat → Nat} {μ : Me} {A : Nat → Nat} {s : Nat → Int} (hs16 : ∀ q, q < 16 → μ 16 q = bz (decide (A q ≠ 0))) (hs17 : ∀ q, q < 16 → A q ≠ 0 → μ 17 q = nI (A q - 1)) (hA : ∀ q, q < 16 → A q ≤ 2) (h22 : ∀ q, q < 16 → μ 22 q = zI (s q)) (hsb : ∀ q, -12 ≤ s q ∧ s q ≤ 12) : KI l D (tyE c) (xw c a) yX4_leastLimit cX4_leastLimit 3 .int (rmL 2) [.ref (a 4)] μ (fun r u => r = zI (llx A s 16) ∧ μ = u) := by
  refine x_enterI (by decide) (Nat.le_of_ble_eq_true rfl) (fun F hl hD hn hRm hC hR => ?_)
  subst hl hD
  change XW F 0 0 (xw c a μ) [(0, .ref (a 4))] 0 []
  change FC F cX4_leastLimit RX4 (tyE c) at hC
  refine x_bipush hC (v := (zI (-6))) dX4_leastLimit_0 rfl ?_
  refine x_istore_n hC [(1, .int (zI (-6))), (0, .ref (a 4))] rfl (lt_n hn rfl) dX4_leastLimit_2 ?_
  refine x_iconst hC (v := (nI 0)) dX4_leastLimit_3 rfl ?_
  refine x_istore_n hC [(2, .int (nI 0)), (1, .int (zI (-6))), (0, .ref (a 4))] rfl (lt_n hn rfl) dX4_leastLimit_4 ?_
  refine x_lv [2, 1, 0] rfl ?_
  have L5 : ∀ (N5 : Nat) (v : Int) (i : Nat), 16 - i < N5 → (v = llx A s i) → (i ≤ 16) → XW F 0 0 (xw c a μ) [(0, .ref (a 4)), (1, .int (zI v)), (2, .int (nI i))] 5 [] := by
    intro N5
    induction N5 with
    | zero => intro v i hN5 hv hi; exact absurd hN5 (by omega)
    | succ N5 ih5 =>
      intro v i hN5 hv hi
      have hvb := llx_b (A := A) (fun q => (hsb q).2) i
      rw [← hv] at hvb
      refine x_iload_n hC 2 rfl dX4_leastLimit_5 ?_
      refine x_bipush hC (v := (nI 16)) dX4_leastLimit_6 rfl ?_
      refine x_icmp_geN hC 48 dX4_leastLimit_8 rfl (by omega) (by decide) (fun h8 => ?_) (fun h8 => ?_)
      · -- 8 T
        refine x_iload_n hC 1 rfl dX4_leastLimit_48 ?_
        exact x_iret hC hR dX4_leastLimit_49 (⟨by rw [hv, show i = 16 by omega], rfl⟩)
      · -- 8 F
        refine x_aload_n hC 0 rfl dX4_leastLimit_11 ?_
        refine x_get hC fl_X4_13 dX4_leastLimit_12 4 rfl rfl ?_
        refine x_iload_n hC 2 rfl dX4_leastLimit_15 ?_
        refine x_zald hC 16 1 rfl rfl (y := (bz (decide (A i ≠ 0)))) (by omega) (by decide) (hs16 i (by omega)) dX4_leastLimit_16 ?_
        refine x_if_eqB hC 42 dX4_leastLimit_17 rfl (fun h17 => ?_) (fun h17 => ?_)
        · -- 17 T
          refine x_iinc hC (z := 1) (v := (nI (i + 1))) 2 rfl (nI_add i 1) [(2, .int (nI (i + 1))), (0, .ref (a 4)), (1, .int (zI v))] rfl (lt_n hn rfl) dX4_leastLimit_42 ?_
          refine x_goto hC 5 dX4_leastLimit_45 rfl ?_
          refine x_lv [1, 2, 0] rfl ?_
          exact ih5 v (i + 1) (by omega) (by rw [llx, ← hv, if_neg (by have := of_decide_eq_false h17; omega)]) (by omega)
        · -- 17 F
          have h17b := of_decide_eq_true h17
          have hAi := hA i (by omega)
          refine x_aload_n hC 0 rfl dX4_leastLimit_20 ?_
          refine x_get hC fl_X4_17 dX4_leastLimit_21 4 rfl rfl ?_
          refine x_iload_n hC 2 rfl dX4_leastLimit_24 ?_
          refine x_iald hC 17 0 rfl rfl (y := (nI (A i - 1))) (by omega) (by decide) (hs17 i (by omega) h17b) dX4_leastLimit_25 ?_
          refine x_if_neN hC 42 dX4_leastLimit_26 rfl (by omega) (fun h26 => ?_) (fun h26 => ?_)
          · -- 26 T
            refine x_iinc hC (z := 1) (v := (nI (i + 1))) 2 rfl (nI_add i 1) [(2, .int (nI (i + 1))), (0, .ref (a 4)), (1, .int (zI v))] rfl (lt_n hn rfl) dX4_leastLimit_42 ?_
            refine x_goto hC 5 dX4_leastLimit_45 rfl ?_
            refine x_lv [1, 2, 0] rfl ?_
            exact ih5 v (i + 1) (by omega) (by rw [llx, ← hv, if_neg (by omega)]) (by omega)
          · -- 26 F
            refine x_iload_n hC 1 rfl dX4_leastLimit_29 ?_
            refine x_aload_n hC 0 rfl dX4_leastLimit_30 ?_
            refine x_get hC fl_X4_40 dX4_leastLimit_31 4 rfl rfl ?_
            refine x_iload_n hC 2 rfl dX4_leastLimit_34 ?_
            refine x_iald hC 22 0 rfl rfl (y := (zI (s i))) (by omega) (by decide) (h22 i (by omega)) dX4_leastLimit_35 ?_
            refine x_iconst hC (v := (nI 1)) dX4_leastLimit_36 rfl ?_
            refine x_iaddE hC (z := (zI ((s i) + 1))) (zI_add (s i) 1) dX4_leastLimit_37 ?_
            refine x_max hC cm_X4_46 dX4_leastLimit_38 (v := (zI (max v (s i + 1)))) (zI_max (by omega) (by have := hsb i; omega)) (by rw [hRm]; decide) (by rw [hRm]; exact Nat.le_of_ble_eq_true rfl) (by rw [hRm]; decide) (by rw [hRm]; decide) ?_
            refine x_istore_n hC [(1, .int (zI (max v (s i + 1)))), (0, .ref (a 4)), (2, .int (nI i))] rfl (lt_n hn rfl) dX4_leastLimit_41 ?_
            refine x_iinc hC (z := 1) (v := (nI (i + 1))) 2 rfl (nI_add i 1) [(2, .int (nI (i + 1))), (1, .int (zI (max v (s i + 1)))), (0, .ref (a 4))] rfl (lt_n hn rfl) dX4_leastLimit_42 ?_
            refine x_goto hC 5 dX4_leastLimit_45 rfl ?_
            refine x_lv [2, 1, 0] rfl ?_
            exact ih5 (max v (s i + 1)) (i + 1) (by omega) (by rw [llx, ← hv, if_pos (by omega)]) (by omega)
  exact L5 _ (-6) 0 (Nat.lt_succ_self _) rfl (by omega)
set_option maxHeartbeats 4000000 in
set_option maxRecDepth 100000 in
theorem c_X4_greatestLimit {l : Launch} {D : va_G} {c : Nat → ClassId} {a : Nat → Nat} {μ : Me} {A : Nat → Nat} {s : Nat → Int} (hs16 : ∀ q, q < 16 → μ 16 q = bz (decide (A q ≠ 0))) (hs17 : ∀ q, q < 16 → A q ≠ 0 → μ 17 q = nI (A q - 1)) (hA : ∀ q, q < 16 → A q ≤ 2) (h22 : ∀ q, q < 16 → μ 22 q = zI (s q)) (hsb : ∀ q, -12 ≤ s q ∧ s q ≤ 12) : KI l D (tyE c) (xw c a) yX4_greatestLimit cX4_greatestLimit 3 .int (rmL 2) [.ref (a 4)] μ (fun r u => r = zI (glx A s 16) ∧ μ = u) := by
  refine x_enterI (by decide) (Nat.le_of_ble_eq_true rfl) (fun F hl hD hn hRm hC hR => ?_)
  subst hl hD
  change XW F 0 0 (xw c a μ) [(0, .ref (a 4))] 0 []
  change FC F cX4_greatestLimit RX4 (tyE c) at hC
  refine x_bipush hC (v := (nI 6)) dX4_greatestLimit_0 rfl ?_
  refine x_istore_n hC [(1, .int (nI 6)), (0, .ref (a 4))] rfl (lt_n hn rfl) dX4_greatestLimit_2 ?_
  refine x_iconst hC (v := (nI 0)) dX4_greatestLimit_3 rfl ?_
  refine x_istore_n hC [(2, .int (nI 0)), (1, .int (nI 6)), (0, .ref (a 4))] rfl (lt_n hn rfl) dX4_greatestLimit_4 ?_
  refine x_lv [2, 1, 0] rfl ?_
  have L5 : ∀ (N5 : Nat) (v : Int) (i : Nat), 16 - i < N5 → (v = glx A s i) → (i ≤ 16) → XW F 0 0 (xw c a μ) [(0, .ref (a 4)), (1, .int (zI v)), (2, .int (nI i))] 5 [] := by
    intro N5
    induction N5 with
    | zero => intro v i hN5 hv hi; exact absurd hN5 (by omega)
    | succ N5 ih5 =>
      intro v i hN5 hv hi
      have hvb := glx_b (A := A) (fun q => (hsb q).1) i
      rw [← hv] at hvb
      refine x_iload_n hC 2 rfl dX4_greatestLimit_5 ?_
      refine x_bipush hC (v := (nI 16)) dX4_greatestLimit_6 rfl ?_
      refine x_icmp_geN hC 47 dX4_greatestLimit_8 rfl (by omega) (by decide) (fun h8 => ?_) (fun h8 => ?_)
      · -- 8 T
        refine x_iload_n hC 1 rfl dX4_greatestLimit_47 ?_
        exact x_iret hC hR dX4_greatestLimit_48 (⟨by rw [hv, show i = 16 by omega], rfl⟩)
      · -- 8 F
        refine x_aload_n hC 0 rfl dX4_greatestLimit_11 ?_
        refine x_get hC fl_X4_13 dX4_greatestLimit_12 4 rfl rfl ?_
        refine x_iload_n hC 2 rfl dX4_greatestLimit_15 ?_
        refine x_zald hC 16 1 rfl rfl (y := (bz (decide (A i ≠ 0)))) (by omega) (by decide) (hs16 i (by omega)) dX4_greatestLimit_16 ?_
        refine x_if_eqB hC 41 dX4_greatestLimit_17 rfl (fun h17 => ?_) (fun h17 => ?_)
        · -- 17 T
          refine x_iinc hC (z := 1) (v := (nI (i + 1))) 2 rfl (nI_add i 1) [(2, .int (nI (i + 1))), (0, .ref (a 4)), (1, .int (zI v))] rfl (lt_n hn rfl) dX4_greatestLimit_41 ?_
          refine x_goto hC 5 dX4_greatestLimit_44 rfl ?_
          refine x_lv [1, 2, 0] rfl ?_
          exact ih5 v (i + 1) (by omega) (by rw [glx, ← hv, if_neg (by have := of_decide_eq_false h17; omega)]) (by omega)
        · -- 17 F
          have h17b := of_decide_eq_true h17
          have hAi := hA i (by omega)
          refine x_aload_n hC 0 rfl dX4_greatestLimit_20 ?_
          refine x_get hC fl_X4_17 dX4_greatestLimit_21 4 rfl rfl ?_
          refine x_iload_n hC 2 rfl dX4_greatestLimit_24 ?_
          refine x_iald hC 17 0 rfl rfl (y := (nI (A i - 1))) (by omega) (by decide) (hs17 i (by omega) h17b) dX4_greatestLimit_25 ?_
          refine x_iconst hC (v := (nI 1)) dX4_greatestLimit_26 rfl ?_
          refine x_icmp_neN hC 41 dX4_greatestLimit_27 rfl (by omega) (by decide) (fun h27 => ?_) (fun h27 => ?_)
          · -- 27 T
            refine x_iinc hC (z := 1) (v := (nI (i + 1))) 2 rfl (nI_add i 1) [(2, .int (nI (i + 1))), (0, .ref (a 4)), (1, .int (zI v))] rfl (lt_n hn rfl) dX4_greatestLimit_41 ?_
            refine x_goto hC 5 dX4_greatestLimit_44 rfl ?_
            refine x_lv [1, 2, 0] rfl ?_
            exact ih5 v (i + 1) (by omega) (by rw [glx, ← hv, if_neg (by omega)]) (by omega)
          · -- 27 F
            refine x_iload_n hC 1 rfl dX4_greatestLimit_30 ?_
            refine x_aload_n hC 0 rfl dX4_greatestLimit_31 ?_
            refine x_get hC fl_X4_40 dX4_greatestLimit_32 4 rfl rfl ?_
            refine x_iload_n hC 2 rfl dX4_greatestLimit_35 ?_
            refine x_iald hC 22 0 rfl rfl (y := (zI (s i))) (by omega) (by decide) (h22 i (by omega)) dX4_greatestLimit_36 ?_
            refine x_min hC cm_X4_67 dX4_greatestLimit_37 (v := (zI (min v (s i)))) (zI_min (by omega) (by have := hsb i; omega)) (by rw [hRm]; decide) (by rw [hRm]; exact Nat.le_of_ble_eq_true rfl) (by rw [hRm]; decide) (by rw [hRm]; decide) ?_
            refine x_istore_n hC [(1, .int (zI (min v (s i)))), (0, .ref (a 4)), (2, .int (nI i))] rfl (lt_n hn rfl) dX4_greatestLimit_40 ?_
            refine x_iinc hC (z := 1) (v := (nI (i + 1))) 2 rfl (nI_add i 1) [(2, .int (nI (i + 1))), (1, .int (zI (min v (s i)))), (0, .ref (a 4))] rfl (lt_n hn rfl) dX4_greatestLimit_41 ?_
            refine x_goto hC 5 dX4_greatestLimit_44 rfl ?_
            refine x_lv [2, 1, 0] rfl ?_
            exact ih5 (min v (s i)) (i + 1) (by omega) (by rw [glx, ← hv, if_pos (by omega)]) (by omega)
  exact L5 _ 6 0 (Nat.lt_succ_self _) rfl (by omega)
set_option maxHeartbeats 4000000 in
set_option maxRecDepth 100000 in
theorem c_X4_countPlanes {l : Launch} {D : va_G} {c : Nat → ClassId} {a : Nat → Nat} {μ : Me} {lo hi : Int} {P : Nat} {O : Nat → Nat} {s : Nat → Int} (h6 : μ 0 6 = nI P) (h20 : ∀ q, q < 16 → μ 20 q = nI (O q)) (h22 : ∀ q, q < 16 → μ 22 q = zI (s q)) (hsb : ∀ q, -12 ≤ s q ∧ s q ≤ 12) (hlo : -6 ≤ lo) (hlh : lo ≤ hi) (hhi : hi ≤ 6) (hPb : P < 2 ^ 30) : KV l D (tyE c) (xw c a) yX4_countPlanes cX4_countPlanes 5 (rmL 2) [.ref (a 4), .int (zI lo), .int (zI hi)] μ (fun u => ∃ f g, u = setc (up (setc μ 19 f) 0 6 (nI (P + (hi - lo + 1).toNat))) 20 g ∧ ((P = 0 → (∀ i, i < 4 → f i = μ 21 i) ∧ f 4 = zI lo) ∧ (P ≠ 0 → f = μ 19)) ∧ (∀ q, q < 16 → g q = nI (O q + (min hi (s q) - lo + 1).toNat))) := by
  refine x_enterV (by decide) (Nat.le_of_ble_eq_true rfl) (fun F hl hD hn hRm hC hR => ?_)
  subst hl hD
  change XW F 0 0 (xw c a μ) [(0, .ref (a 4)), (1, .int (zI lo)), (2, .int (zI hi))] 0 []
  change FC F cX4_countPlanes RX4 (tyE c) at hC
  refine x_aload_n hC 0 rfl dX4_countPlanes_0 ?_
  refine x_get hC fl_X4_28 dX4_countPlanes_1 4 rfl (v := .int (nI P)) (xv h6) ?_
  refine x_if_neN hC 28 dX4_countPlanes_4 rfl (by omega) (fun h4 => ?_) (fun h4 => ?_)
  · -- 4 T
    obtain ⟨f, hf1, e_f⟩ : ∃ f : Nat → Int32, ((P = 0 → (∀ i, i < 4 → f i = μ 21 i) ∧ f 4 = zI lo) ∧ (P ≠ 0 → f = μ 19)) ∧ f = μ 19 := ⟨_, ⟨fun q => absurd q h4, fun _ => rfl⟩, rfl⟩
    refine x_wd (show xw c a μ = xw c a (setc μ 19 f) by rw [e_f]; rfl) ?_
    refine x_aload_n hC 0 rfl dX4_countPlanes_28 ?_
    refine x_dup hC rfl dX4_countPlanes_29 ?_
    refine x_get hC fl_X4_28 dX4_countPlanes_30 4 rfl (v := .int (nI P)) (xv h6) ?_
    refine x_iload_n hC 2 rfl dX4_countPlanes_33 ?_
    refine x_iload_n hC 1 rfl dX4_countPlanes_34 ?_
    refine x_isubE hC (z := (zI (hi - lo))) (zI_sub hi lo) dX4_countPlanes_35 ?_
    refine x_iconst hC (v := (nI 1)) dX4_countPlanes_36 rfl ?_
    refine x_iaddE hC (z := (zI ((hi - lo) + 1))) (zI_add (hi - lo) 1) dX4_countPlanes_37 ?_
    refine x_top (x := (zI ((hi - lo) + 1))) (y := (nI ((hi - lo + 1).toNat))) (zI_nat (by omega)) ?_
    refine x_iaddE hC (z := (nI (P + (hi - lo + 1).toNat))) (nI_add _ _) dX4_countPlanes_38 ?_
    refine x_put hC fp_X4_28 dX4_countPlanes_39 4 rfl rfl rfl (Nat.le_of_ble_eq_true rfl) (xw c a (up (setc μ 19 f) 0 6 (nI (P + (hi - lo + 1).toNat)))) rfl ?_
    refine x_iconst hC (v := (nI 0)) dX4_countPlanes_42 rfl ?_
    refine x_istore_n hC [(3, .int (nI 0)), (0, .ref (a 4)), (1, .int (zI lo)), (2, .int (zI hi))] rfl (lt_n hn rfl) dX4_countPlanes_43 ?_
    refine x_lv [1, 2, 3, 0] rfl ?_
    have L44 : ∀ (N44 : Nat) (g : Nat → Int32) (i : Nat), 16 - i < N44 → (i ≤ 16) → (∀ q, q < i → g q = nI (O q + (min hi (s q) - lo + 1).toNat)) → (∀ q, q < 16 → i ≤ q → g q = nI (O q)) → XW F 0 0 (xw c a (setc (up (setc μ 19 f) 0 6 (nI (P + (hi - lo + 1).toNat))) 20 g)) [(0, .ref (a 4)), (1, .int (zI lo)), (2, .int (zI hi)), (3, .int (nI i))] 44 [] := by
      intro N44
      induction N44 with
      | zero => intro g i hN44 hi9 hg1 hg2; exact absurd hN44 (by omega)
      | succ N44 ih44 =>
        intro g i hN44 hi9 hg1 hg2
        refine x_iload_n hC 3 rfl dX4_countPlanes_44 ?_
        refine x_bipush hC (v := (nI 16)) dX4_countPlanes_45 rfl ?_
        refine x_icmp_geN hC 87 dX4_countPlanes_47 rfl (by omega) (by decide) (fun h47 => ?_) (fun h47 => ?_)
        · -- 47 T
          exact x_vret hC hR dX4_countPlanes_87 (⟨f, g, rfl, hf1, fun q h => hg1 q (by omega)⟩)
        · -- 47 F
          refine x_iload_n hC 2 rfl dX4_countPlanes_50 ?_
          refine x_aload_n hC 0 rfl dX4_countPlanes_51 ?_
          refine x_get hC fl_X4_40 dX4_countPlanes_52 4 rfl rfl ?_
          refine x_iload_n hC 3 rfl dX4_countPlanes_55 ?_
          refine x_iald hC 22 0 rfl rfl (y := (zI (s i))) (by omega) (by decide) (h22 i (by omega)) dX4_countPlanes_56 ?_
          refine x_min hC cm_X4_67 dX4_countPlanes_57 (v := (zI (min hi (s i)))) (zI_min (by omega) (by have := hsb i; omega)) (by rw [hRm]; decide) (by rw [hRm]; exact Nat.le_of_ble_eq_true rfl) (by rw [hRm]; decide) (by rw [hRm]; decide) ?_
          refine x_istore hC [(4, .int (zI (min hi (s i)))), (0, .ref (a 4)), (1, .int (zI lo)), (2, .int (zI hi)), (3, .int (nI i))] rfl (lt_n hn rfl) dX4_countPlanes_60 ?_
          have hsi := hsb i
          refine x_aload_n hC 1 rfl dX4_countPlanes_62 ?_
          refine x_get hC fl_X4_34 dX4_countPlanes_63 4 rfl rfl ?_
          refine x_iload_n hC 4 rfl dX4_countPlanes_66 ?_
          refine x_dup2 hC rfl rfl dX4_countPlanes_67 ?_
          refine x_iald hC 20 0 rfl rfl (y := (nI (O i))) (by omega) (by decide) (hg2 i (by omega) (by omega)) dX4_countPlanes_68 ?_
          refine x_iconst hC (v := (nI 0)) dX4_countPlanes_69 rfl ?_
          refine x_iload hC 0 rfl dX4_countPlanes_70 ?_
          refine x_iload_n hC 2 rfl dX4_countPlanes_72 ?_
          refine x_isubE hC (z := (zI ((min hi (s i)) - lo))) (zI_sub (min hi (s i)) lo) dX4_countPlanes_73 ?_
          refine x_iconst hC (v := (nI 1)) dX4_countPlanes_74 rfl ?_
          refine x_iaddE hC (z := (zI (((min hi (s i)) - lo) + 1))) (zI_add ((min hi (s i)) - lo) 1) dX4_countPlanes_75 ?_
          refine x_max hC cm_X4_46 dX4_countPlanes_76 (v := (nI ((min hi (s i) - lo + 1).toNat))) ((zI_max (a := 0) (b := min hi (s i) - lo + 1) (by omega) (by omega)).trans ((zI_nat (by omega)).trans (congrArg nI (by omega)))) (by rw [hRm]; decide) (by rw [hRm]; exact Nat.le_of_ble_eq_true rfl) (by rw [hRm]; decide) (by rw [hRm]; decide) ?_
          refine x_iaddE hC (z := (nI ((O i) + (min hi (s i) - lo + 1).toNat))) (nI_add _ _) dX4_countPlanes_79 ?_
          refine x_iast hC 20 0 rfl rfl (by omega) (by decide) (xw c a (setc (up (setc μ 19 f) 0 6 (nI (P + (hi - lo + 1).toNat))) 20 (upd g i (nI ((O i) + (min hi (s i) - lo + 1).toNat))))) rfl dX4_countPlanes_80 ?_
          refine x_iinc hC (z := 1) (v := (nI (i + 1))) 4 rfl (nI_add i 1) [(3, .int (nI (i + 1))), (4, .int (zI (min hi (s i)))), (0, .ref (a 4)), (1, .int (zI lo)), (2, .int (zI hi))] rfl (lt_n hn rfl) dX4_countPlanes_81 ?_
          refine x_goto hC 44 dX4_countPlanes_84 rfl ?_
          refine x_lv [2, 3, 4, 0] rfl ?_
          exact ih44 (upd g i (nI (O i + (min hi (s i) - lo + 1).toNat))) (i + 1) (by omega) (by omega) (upd_all (Q := fun q v => v = nI (O q + (min hi (s q) - lo + 1).toNat)) hg1 rfl) (fun q h1 h2 => by rw [upd_n (by omega)]; exact hg2 q h1 (by omega))
    exact L44 _ (μ 20) 0 (Nat.lt_succ_self _) (by omega) (fun q h => absurd h (by omega)) (fun q h _ => h20 q h)
  · -- 4 F
    refine x_aload_n hC 0 rfl dX4_countPlanes_7 ?_
    refine x_get hC fl_X4_37 dX4_countPlanes_8 4 rfl rfl ?_
    refine x_iconst hC (v := (nI 0)) dX4_countPlanes_11 rfl ?_
    refine x_aload_n hC 0 rfl dX4_countPlanes_12 ?_
    refine x_get hC fl_X4_31 dX4_countPlanes_13 4 rfl rfl ?_
    refine x_iconst hC (v := (nI 0)) dX4_countPlanes_16 rfl ?_
    refine x_iconst hC (v := (nI 4)) dX4_countPlanes_17 rfl ?_
    refine x_copyi hC ac_X4_70 dX4_countPlanes_18 21 19 rfl rfl rfl (by decide) (by decide) (by decide) (by rw [hRm]; decide) (by rw [hRm]; exact Nat.le_of_ble_eq_true rfl) (xw c a (setc μ 19 (va_cpy (μ 21) (μ 19) 0 0 4))) rfl ?_
    refine x_aload_n hC 0 rfl dX4_countPlanes_21 ?_
    refine x_get hC fl_X4_31 dX4_countPlanes_22 4 rfl rfl ?_
    refine x_iconst hC (v := (nI 4)) dX4_countPlanes_25 rfl ?_
    refine x_iload_n hC 1 rfl dX4_countPlanes_26 ?_
    refine x_iast hC 19 0 rfl rfl (by decide) (by decide) (xw c a (setc μ 19 (upd (va_cpy (μ 21) (μ 19) 0 0 4) 4 (zI lo)))) rfl dX4_countPlanes_27 ?_
    obtain ⟨f, hf1, e_f⟩ : ∃ f : Nat → Int32, ((P = 0 → (∀ i, i < 4 → f i = μ 21 i) ∧ f 4 = zI lo) ∧ (P ≠ 0 → f = μ 19)) ∧ f = (upd (va_cpy (μ 21) (μ 19) 0 0 4) 4 (zI lo)) := ⟨_, ⟨fun _ => ⟨fun i hi9 => by rw [upd_n (by omega), pk_cpy_in (by omega) (by omega)]; simp, upd_s _ _ _⟩, fun q => absurd h4 q⟩, rfl⟩
    refine x_wd (show xw c a (setc μ 19 (upd (va_cpy (μ 21) (μ 19) 0 0 4) 4 (zI lo))) = xw c a (setc μ 19 f) by rw [e_f]) ?_
    refine x_aload_n hC 0 rfl dX4_countPlanes_28 ?_
    refine x_dup hC rfl dX4_countPlanes_29 ?_
    refine x_get hC fl_X4_28 dX4_countPlanes_30 4 rfl (v := .int (nI P)) (xv h6) ?_
    refine x_iload_n hC 2 rfl dX4_countPlanes_33 ?_
    refine x_iload_n hC 1 rfl dX4_countPlanes_34 ?_
    refine x_isubE hC (z := (zI (hi - lo))) (zI_sub hi lo) dX4_countPlanes_35 ?_
    refine x_iconst hC (v := (nI 1)) dX4_countPlanes_36 rfl ?_
    refine x_iaddE hC (z := (zI ((hi - lo) + 1))) (zI_add (hi - lo) 1) dX4_countPlanes_37 ?_
    refine x_top (x := (zI ((hi - lo) + 1))) (y := (nI ((hi - lo + 1).toNat))) (zI_nat (by omega)) ?_
    refine x_iaddE hC (z := (nI (P + (hi - lo + 1).toNat))) (nI_add _ _) dX4_countPlanes_38 ?_
    refine x_put hC fp_X4_28 dX4_countPlanes_39 4 rfl rfl rfl (Nat.le_of_ble_eq_true rfl) (xw c a (up (setc μ 19 f) 0 6 (nI (P + (hi - lo + 1).toNat)))) rfl ?_
    refine x_iconst hC (v := (nI 0)) dX4_countPlanes_42 rfl ?_
    refine x_istore_n hC [(3, .int (nI 0)), (0, .ref (a 4)), (1, .int (zI lo)), (2, .int (zI hi))] rfl (lt_n hn rfl) dX4_countPlanes_43 ?_
    refine x_lv [1, 2, 3, 0] rfl ?_
    have L44 : ∀ (N44 : Nat) (g : Nat → Int32) (i : Nat), 16 - i < N44 → (i ≤ 16) → (∀ q, q < i → g q = nI (O q + (min hi (s q) - lo + 1).toNat)) → (∀ q, q < 16 → i ≤ q → g q = nI (O q)) → XW F 0 0 (xw c a (setc (up (setc μ 19 f) 0 6 (nI (P + (hi - lo + 1).toNat))) 20 g)) [(0, .ref (a 4)), (1, .int (zI lo)), (2, .int (zI hi)), (3, .int (nI i))] 44 [] := by
      intro N44
      induction N44 with
      | zero => intro g i hN44 hi9 hg1 hg2; exact absurd hN44 (by omega)
      | succ N44 ih44 =>
        intro g i hN44 hi9 hg1 hg2
        refine x_iload_n hC 3 rfl dX4_countPlanes_44 ?_
        refine x_bipush hC (v := (nI 16)) dX4_countPlanes_45 rfl ?_
        refine x_icmp_geN hC 87 dX4_countPlanes_47 rfl (by omega) (by decide) (fun h47 => ?_) (fun h47 => ?_)
        · -- 47 T
          exact x_vret hC hR dX4_countPlanes_87 (⟨f, g, rfl, hf1, fun q h => hg1 q (by omega)⟩)
        · -- 47 F
          refine x_iload_n hC 2 rfl dX4_countPlanes_50 ?_
          refine x_aload_n hC 0 rfl dX4_countPlanes_51 ?_
          refine x_get hC fl_X4_40 dX4_countPlanes_52 4 rfl rfl ?_
          refine x_iload_n hC 3 rfl dX4_countPlanes_55 ?_
          refine x_iald hC 22 0 rfl rfl (y := (zI (s i))) (by omega) (by decide) (h22 i (by omega)) dX4_countPlanes_56 ?_
          refine x_min hC cm_X4_67 dX4_countPlanes_57 (v := (zI (min hi (s i)))) (zI_min (by omega) (by have := hsb i; omega)) (by rw [hRm]; decide) (by rw [hRm]; exact Nat.le_of_ble_eq_true rfl) (by rw [hRm]; decide) (by rw [hRm]; decide) ?_
          refine x_istore hC [(4, .int (zI (min hi (s i)))), (0, .ref (a 4)), (1, .int (zI lo)), (2, .int (zI hi)), (3, .int (nI i))] rfl (lt_n hn rfl) dX4_countPlanes_60 ?_
          have hsi := hsb i
          refine x_aload_n hC 1 rfl dX4_countPlanes_62 ?_
          refine x_get hC fl_X4_34 dX4_countPlanes_63 4 rfl rfl ?_
          refine x_iload_n hC 4 rfl dX4_countPlanes_66 ?_
          refine x_dup2 hC rfl rfl dX4_countPlanes_67 ?_
          refine x_iald hC 20 0 rfl rfl (y := (nI (O i))) (by omega) (by decide) (hg2 i (by omega) (by omega)) dX4_countPlanes_68 ?_
          refine x_iconst hC (v := (nI 0)) dX4_countPlanes_69 rfl ?_
          refine x_iload hC 0 rfl dX4_countPlanes_70 ?_
          refine x_iload_n hC 2 rfl dX4_countPlanes_72 ?_
          refine x_isubE hC (z := (zI ((min hi (s i)) - lo))) (zI_sub (min hi (s i)) lo) dX4_countPlanes_73 ?_
          refine x_iconst hC (v := (nI 1)) dX4_countPlanes_74 rfl ?_
          refine x_iaddE hC (z := (zI (((min hi (s i)) - lo) + 1))) (zI_add ((min hi (s i)) - lo) 1) dX4_countPlanes_75 ?_
          refine x_max hC cm_X4_46 dX4_countPlanes_76 (v := (nI ((min hi (s i) - lo + 1).toNat))) ((zI_max (a := 0) (b := min hi (s i) - lo + 1) (by omega) (by omega)).trans ((zI_nat (by omega)).trans (congrArg nI (by omega)))) (by rw [hRm]; decide) (by rw [hRm]; exact Nat.le_of_ble_eq_true rfl) (by rw [hRm]; decide) (by rw [hRm]; decide) ?_
          refine x_iaddE hC (z := (nI ((O i) + (min hi (s i) - lo + 1).toNat))) (nI_add _ _) dX4_countPlanes_79 ?_
          refine x_iast hC 20 0 rfl rfl (by omega) (by decide) (xw c a (setc (up (setc μ 19 f) 0 6 (nI (P + (hi - lo + 1).toNat))) 20 (upd g i (nI ((O i) + (min hi (s i) - lo + 1).toNat))))) rfl dX4_countPlanes_80 ?_
          refine x_iinc hC (z := 1) (v := (nI (i + 1))) 4 rfl (nI_add i 1) [(3, .int (nI (i + 1))), (4, .int (zI (min hi (s i)))), (0, .ref (a 4)), (1, .int (zI lo)), (2, .int (zI hi))] rfl (lt_n hn rfl) dX4_countPlanes_81 ?_
          refine x_goto hC 44 dX4_countPlanes_84 rfl ?_
          refine x_lv [2, 3, 4, 0] rfl ?_
          exact ih44 (upd g i (nI (O i + (min hi (s i) - lo + 1).toNat))) (i + 1) (by omega) (by omega) (upd_all (Q := fun q v => v = nI (O q + (min hi (s q) - lo + 1).toNat)) hg1 rfl) (fun q h1 h2 => by rw [upd_n (by omega)]; exact hg2 q h1 (by omega))
    exact L44 _ (μ 20) 0 (Nat.lt_succ_self _) (by omega) (fun q h => absurd h (by omega)) (fun q h _ => h20 q h)
