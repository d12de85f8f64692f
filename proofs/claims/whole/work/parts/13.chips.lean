/-! Chips -/
def mrow (f : Nat → Nat) (x : Nat) : Nat → Nat
  | 0 => x
  | b + 1 => min (mrow f x b) (f b)
def mall (d : Nat → Nat → Nat) (x : Nat) : Nat → Nat
  | 0 => x
  | a + 1 => mrow (d a) (mall d x a) a
/-- the least one is by 3 below every other -/
def lone (d : Nat → Nat) (m : Nat) : Bool := decide (0 < m) && allN (fun j => decide (j = amin d m ∨ d (amin d m) + 3 ≤ d j)) m
theorem allN_F {p : Nat → Bool} {m i : Nat} (hi : i < m) (h : p i = false) : allN p m = false := by
  cases hq : allN p m with
  | false => rfl
  | true => rw [allN_iff.mp hq i hi] at h; cases h
theorem mrow_le (f : Nat → Nat) (x : Nat) : ∀ j, mrow f x j ≤ x
  | 0 => Nat.le_refl _
  | j + 1 => Nat.le_trans (Nat.min_le_left _ _) (mrow_le f x j)
theorem mall_le (d : Nat → Nat → Nat) (x : Nat) : ∀ j, mall d x j ≤ x
  | 0 => Nat.le_refl _
  | j + 1 => Nat.le_trans (mrow_le _ _ _) (mall_le d x j)
theorem and_lt14 {a b : Nat} (h : b < 16384) : a &&& b < 16384 := Nat.and_lt_two_pow a (n := 14) h

set_option maxHeartbeats 4000000 in
set_option maxRecDepth 100000 in
theorem c_X1_isChip {l : Launch} {D : va_G} {c : Nat → ClassId} {a : Nat → Nat} {μ : Me} {x : Int32} {m : Nat} (h3 : μ 0 3 = nI m) (hm : m ≤ 8) : KI l D (tyE c) (xw c a) yX1_isChip cX1_isChip 2 .boolean (rmL 1) [.ref (a 3), .int x] μ (fun r u => r = bz (isI m x) ∧ μ = u) := by
  refine x_enterI (by decide) (Nat.le_of_ble_eq_true rfl) (fun F hl hD hn hRm hC hR => ?_)
  subst hl hD
  change XW F 0 0 (xw c a μ) [(0, .ref (a 3)), (1, .int x)] 0 []
  change FC F cX1_isChip RX1 (tyE c) at hC
  refine x_iload_n hC 1 rfl dX1_isChip_0 ?_
  refine x_if_lt hC 16 dX1_isChip_1 rfl (fun h1 => ?_) (fun h1 => ?_)
  · -- 1 T
    refine x_iconst hC (v := (nI 0)) dX1_isChip_16 rfl ?_
    exact x_zret hC hR dX1_isChip_17 rfl (⟨by first | exact isI_f0 h1 | exact isI_f1 (by omega) h9 | exact isI_t1 (by omega) h1 h9, rfl⟩)
  · -- 1 F
    refine x_iload_n hC 1 rfl dX1_isChip_4 ?_
    refine x_aload_n hC 0 rfl dX1_isChip_5 ?_
    refine x_get hC fl_X1_7 dX1_isChip_6 3 rfl (v := .int (nI m)) (xv h3) ?_
    refine x_icmp_ge hC 16 dX1_isChip_9 rfl (fun h9 => ?_) (fun h9 => ?_)
    · -- 9 T
      refine x_iconst hC (v := (nI 0)) dX1_isChip_16 rfl ?_
      exact x_zret hC hR dX1_isChip_17 rfl (⟨by first | exact isI_f0 h1 | exact isI_f1 (by omega) h9 | exact isI_t1 (by omega) h1 h9, rfl⟩)
    · -- 9 F
      refine x_iconst hC (v := (nI 1)) dX1_isChip_12 rfl ?_
      refine x_goto hC 17 dX1_isChip_13 rfl ?_
      exact x_zret hC hR dX1_isChip_17 rfl (⟨by first | exact isI_f0 h1 | exact isI_f1 (by omega) h9 | exact isI_t1 (by omega) h1 h9, rfl⟩)
set_option maxHeartbeats 4000000 in
set_option maxRecDepth 100000 in
theorem c_X1_add {l : Launch} {D : va_G} {c : Nat → ClassId} {a : Nat → Nat} {μ : Me} {w m : Nat} (h3 : μ 0 3 = nI m) (hm : m < 8) : KI l D (tyE c) (xw c a) yX1_add cX1_add 3 .int (rmL 1) [.ref (a 3), .int (nI w)] μ (fun r u => r = nI m ∧ u = up (up (up μ 12 m (nI w)) 13 m (nI 0)) 0 3 (nI (m + 1))) := by
  refine x_enterI (by decide) (Nat.le_of_ble_eq_true rfl) (fun F hl hD hn hRm hC hR => ?_)
  subst hl hD
  change XW F 0 0 (xw c a μ) [(0, .ref (a 3)), (1, .int (nI w))] 0 []
  change FC F cX1_add RX1 (tyE c) at hC
  refine x_aload_n hC 0 rfl dX1_add_0 ?_
  refine x_get hC fl_X1_7 dX1_add_1 3 rfl (v := .int (nI m)) (xv h3) ?_
  refine x_istore_n hC [(2, .int (nI m)), (0, .ref (a 3)), (1, .int (nI w))] rfl (lt_n hn rfl) dX1_add_4 ?_
  refine x_iload_n hC 0 rfl dX1_add_5 ?_
  refine x_bipush hC (v := (nI 8)) dX1_add_6 rfl ?_
  refine x_icmp_geN hC 35 dX1_add_8 rfl (by omega) (by decide) (fun h8 => ?_) (fun h8 => ?_)
  · -- 8 T
    exact absurd h8 (by omega)
  · -- 8 F
    refine x_aload_n hC 1 rfl dX1_add_11 ?_
    refine x_get hC fl_X1_13 dX1_add_12 3 rfl rfl ?_
    refine x_iload_n hC 0 rfl dX1_add_15 ?_
    refine x_iload_n hC 2 rfl dX1_add_16 ?_
    refine x_iast hC 12 0 rfl rfl (by omega) (by decide) (xw c a (up μ 12 m (nI w))) rfl dX1_add_17 ?_
    refine x_aload_n hC 1 rfl dX1_add_18 ?_
    refine x_get hC fl_X1_17 dX1_add_19 3 rfl rfl ?_
    refine x_iload_n hC 0 rfl dX1_add_22 ?_
    refine x_iconst hC (v := (nI 0)) dX1_add_23 rfl ?_
    refine x_zast hC 13 1 rfl rfl (by omega) (by decide) rfl (xw c a (up (up μ 12 m (nI w)) 13 m (nI 0))) rfl dX1_add_24 ?_
    refine x_aload_n hC 1 rfl dX1_add_25 ?_
    refine x_dup hC rfl dX1_add_26 ?_
    refine x_get hC fl_X1_7 dX1_add_27 3 rfl (v := .int (nI m)) (xv h3) ?_
    refine x_iconst hC (v := (nI 1)) dX1_add_30 rfl ?_
    refine x_iaddE hC (z := (nI (m + 1))) (nI_add _ _) dX1_add_31 ?_
    refine x_put hC fp_X1_7 dX1_add_32 3 rfl rfl rfl (Nat.le_of_ble_eq_true rfl) (xw c a (up (up (up μ 12 m (nI w)) 13 m (nI 0)) 0 3 (nI (m + 1)))) rfl ?_
    refine x_iload_n hC 0 rfl dX1_add_35 ?_
    exact x_iret hC hR dX1_add_36 (⟨rfl, rfl⟩)
set_option maxHeartbeats 4000000 in
set_option maxRecDepth 100000 in
theorem c_X1_dropAll {l : Launch} {D : va_G} {c : Nat → ClassId} {a : Nat → Nat} {μ : Me}  : KV l D (tyE c) (xw c a) yX1_dropAll cX1_dropAll 1 (rmL 1) [.ref (a 3)] μ (fun u => u = up μ 0 3 (nI 0)) := by
  refine x_enterV (by decide) (Nat.le_of_ble_eq_true rfl) (fun F hl hD hn hRm hC hR => ?_)
  subst hl hD
  change XW F 0 0 (xw c a μ) [(0, .ref (a 3))] 0 []
  change FC F cX1_dropAll RX1 (tyE c) at hC
  refine x_aload_n hC 0 rfl dX1_dropAll_0 ?_
  refine x_iconst hC (v := (nI 0)) dX1_dropAll_1 rfl ?_
  refine x_put hC fp_X1_7 dX1_dropAll_2 3 rfl rfl rfl (Nat.le_of_ble_eq_true rfl) (xw c a (up μ 0 3 (nI 0))) rfl ?_
  exact x_vret hC hR dX1_dropAll_5 (rfl)
set_option maxHeartbeats 4000000 in
set_option maxRecDepth 100000 in
theorem c_X1_giveHelp {l : Launch} {D : va_G} {c : Nat → ClassId} {a : Nat → Nat} {μ : Me} {i w k : Nat} (hi : i < 8) : KV l D (tyE c) (xw c a) yX1_giveHelp cX1_giveHelp 4 (rmL 1) [.ref (a 3), .int (nI i), .int (nI w), .int (nI k)] μ (fun u => u = up (up (up μ 13 i (nI 1)) 14 i (nI w)) 15 i (nI k)) := by
  refine x_enterV (by decide) (Nat.le_of_ble_eq_true rfl) (fun F hl hD hn hRm hC hR => ?_)
  subst hl hD
  change XW F 0 0 (xw c a μ) [(0, .ref (a 3)), (1, .int (nI i)), (2, .int (nI w)), (3, .int (nI k))] 0 []
  change FC F cX1_giveHelp RX1 (tyE c) at hC
  refine x_aload_n hC 0 rfl dX1_giveHelp_0 ?_
  refine x_get hC fl_X1_17 dX1_giveHelp_1 3 rfl rfl ?_
  refine x_iload_n hC 1 rfl dX1_giveHelp_4 ?_
  refine x_iconst hC (v := (nI 1)) dX1_giveHelp_5 rfl ?_
  refine x_zast hC 13 1 rfl rfl (by omega) (by decide) rfl (xw c a (up μ 13 i (nI 1))) rfl dX1_giveHelp_6 ?_
  refine x_aload_n hC 0 rfl dX1_giveHelp_7 ?_
  refine x_get hC fl_X1_21 dX1_giveHelp_8 3 rfl rfl ?_
  refine x_iload_n hC 1 rfl dX1_giveHelp_11 ?_
  refine x_iload_n hC 2 rfl dX1_giveHelp_12 ?_
  refine x_iast hC 14 0 rfl rfl (by omega) (by decide) (xw c a (up (up μ 13 i (nI 1)) 14 i (nI w))) rfl dX1_giveHelp_13 ?_
  refine x_aload_n hC 0 rfl dX1_giveHelp_14 ?_
  refine x_get hC fl_X1_24 dX1_giveHelp_15 3 rfl rfl ?_
  refine x_iload_n hC 1 rfl dX1_giveHelp_18 ?_
  refine x_iload_n hC 3 rfl dX1_giveHelp_19 ?_
  refine x_iast hC 15 0 rfl rfl (by omega) (by decide) (xw c a (up (up (up μ 13 i (nI 1)) 14 i (nI w)) 15 i (nI k))) rfl dX1_giveHelp_20 ?_
  exact x_vret hC hR dX1_giveHelp_21 (rfl)
set_option maxHeartbeats 4000000 in
set_option maxRecDepth 100000 in
theorem c_X1_dropHelp {l : Launch} {D : va_G} {c : Nat → ClassId} {a : Nat → Nat} {μ : Me} {m : Nat} (h3 : μ 0 3 = nI m) (hm : m ≤ 8) : KV l D (tyE c) (xw c a) yX1_dropHelp cX1_dropHelp 2 (rmL 1) [.ref (a 3)] μ (fun u => ∃ f, u = setc μ 13 f ∧ ∀ j, j < m → f j = nI 0) := by
  refine x_enterV (by decide) (Nat.le_of_ble_eq_true rfl) (fun F hl hD hn hRm hC hR => ?_)
  subst hl hD
  change XW F 0 0 (xw c a μ) [(0, .ref (a 3))] 0 []
  change FC F cX1_dropHelp RX1 (tyE c) at hC
  refine x_iconst hC (v := (nI 0)) dX1_dropHelp_0 rfl ?_
  refine x_istore_n hC [(1, .int (nI 0)), (0, .ref (a 3))] rfl (lt_n hn rfl) dX1_dropHelp_1 ?_
  refine x_lv [1, 0] rfl ?_
  have L2 : ∀ (N2 : Nat) (f : Nat → Int32) (i : Nat), m - i < N2 → (i ≤ m) → (∀ j, j < i → f j = nI 0) → XW F 0 0 (xw c a (setc μ 13 f)) [(0, .ref (a 3)), (1, .int (nI i))] 2 [] := by
    intro N2
    induction N2 with
    | zero => intro f i hN2 hi hf; exact absurd hN2 (by omega)
    | succ N2 ih2 =>
      intro f i hN2 hi hf
      refine x_iload_n hC 1 rfl dX1_dropHelp_2 ?_
      refine x_aload_n hC 0 rfl dX1_dropHelp_3 ?_
      refine x_get hC fl_X1_7 dX1_dropHelp_4 3 rfl (v := .int (nI m)) (xv h3) ?_
      refine x_icmp_geN hC 23 dX1_dropHelp_7 rfl (by omega) (by omega) (fun h7 => ?_) (fun h7 => ?_)
      · -- 7 T
        exact x_vret hC hR dX1_dropHelp_23 (⟨f, rfl, fun j h => hf j (by omega)⟩)
      · -- 7 F
        refine x_aload_n hC 0 rfl dX1_dropHelp_10 ?_
        refine x_get hC fl_X1_17 dX1_dropHelp_11 3 rfl rfl ?_
        refine x_iload_n hC 1 rfl dX1_dropHelp_14 ?_
        refine x_iconst hC (v := (nI 0)) dX1_dropHelp_15 rfl ?_
        refine x_zast hC 13 1 rfl rfl (by omega) (by decide) rfl (xw c a (setc μ 13 (upd f i (nI 0)))) rfl dX1_dropHelp_16 ?_
        refine x_iinc hC (z := 1) (v := (nI (i + 1))) 1 rfl (nI_add i 1) [(1, .int (nI (i + 1))), (0, .ref (a 3))] rfl (lt_n hn rfl) dX1_dropHelp_17 ?_
        refine x_goto hC 2 dX1_dropHelp_20 rfl ?_
        refine x_lv [1, 0] rfl ?_
        exact ih2 (upd f i (nI 0)) (i + 1) (by omega) (by omega) (fun j h => by by_cases q : j = i <;> simp [upd, q, hf j] <;> exact hf j (by omega))
  exact L2 _ (μ 13) 0 (Nat.lt_succ_self _) (by omega) (fun j h => absurd h (by omega))
set_option maxHeartbeats 4000000 in
set_option maxRecDepth 100000 in
theorem c_X1_withHelp {l : Launch} {D : va_G} {c : Nat → ClassId} {a : Nat → Nat} {μ : Me} {m : Nat} {hp : Nat → Bool} (h3 : μ 0 3 = nI m) (hm : m ≤ 8) (h13 : ∀ j, j < m → μ 13 j = bz (hp j)) : KI l D (tyE c) (xw c a) yX1_withHelp cX1_withHelp 3 .int (rmL 1) [.ref (a 3)] μ (fun r u => r = nI (sumN (fun j => if hp j then 1 else 0) m) ∧ μ = u) := by
  refine x_enterI (by decide) (Nat.le_of_ble_eq_true rfl) (fun F hl hD hn hRm hC hR => ?_)
  subst hl hD
  change XW F 0 0 (xw c a μ) [(0, .ref (a 3))] 0 []
  change FC F cX1_withHelp RX1 (tyE c) at hC
  refine x_iconst hC (v := (nI 0)) dX1_withHelp_0 rfl ?_
  refine x_istore_n hC [(1, .int (nI 0)), (0, .ref (a 3))] rfl (lt_n hn rfl) dX1_withHelp_1 ?_
  refine x_iconst hC (v := (nI 0)) dX1_withHelp_2 rfl ?_
  refine x_istore_n hC [(2, .int (nI 0)), (1, .int (nI 0)), (0, .ref (a 3))] rfl (lt_n hn rfl) dX1_withHelp_3 ?_
  refine x_lv [2, 1, 0] rfl ?_
  have L4 : ∀ (N4 : Nat) (s : Nat) (i : Nat), m - i < N4 → (s = sumN (fun j => if hp j then 1 else 0) i) → (i ≤ m) → XW F 0 0 (xw c a μ) [(0, .ref (a 3)), (1, .int (nI s)), (2, .int (nI i))] 4 [] := by
    intro N4
    induction N4 with
    | zero => intro s i hN4 hs hi; exact absurd hN4 (by omega)
    | succ N4 ih4 =>
      intro s i hN4 hs hi
      refine x_iload_n hC 2 rfl dX1_withHelp_4 ?_
      refine x_aload_n hC 0 rfl dX1_withHelp_5 ?_
      refine x_get hC fl_X1_7 dX1_withHelp_6 3 rfl (v := .int (nI m)) (xv h3) ?_
      refine x_icmp_geN hC 35 dX1_withHelp_9 rfl (by omega) (by omega) (fun h9 => ?_) (fun h9 => ?_)
      · -- 9 T
        refine x_iload_n hC 1 rfl dX1_withHelp_35 ?_
        exact x_iret hC hR dX1_withHelp_36 (⟨by rw [hs, show i = m by omega], rfl⟩)
      · -- 9 F
        refine x_iload_n hC 1 rfl dX1_withHelp_12 ?_
        refine x_aload_n hC 0 rfl dX1_withHelp_13 ?_
        refine x_get hC fl_X1_17 dX1_withHelp_14 3 rfl rfl ?_
        refine x_iload_n hC 2 rfl dX1_withHelp_17 ?_
        refine x_zald hC 13 1 rfl rfl (y := (bz (hp i))) (by omega) (by decide) (h13 i (by omega)) dX1_withHelp_18 ?_
        refine x_if_eqB hC 26 dX1_withHelp_19 rfl (fun h19 => ?_) (fun h19 => ?_)
        · -- 19 T
          refine x_iconst hC (v := (nI 0)) dX1_withHelp_26 rfl ?_
          refine x_iaddE hC (z := (nI (s + 0))) (nI_add _ _) dX1_withHelp_27 ?_
          refine x_istore_n hC [(1, .int (nI (s + 0))), (0, .ref (a 3)), (2, .int (nI i))] rfl (lt_n hn rfl) dX1_withHelp_28 ?_
          refine x_iinc hC (z := 1) (v := (nI (i + 1))) 2 rfl (nI_add i 1) [(2, .int (nI (i + 1))), (1, .int (nI (s + 0))), (0, .ref (a 3))] rfl (lt_n hn rfl) dX1_withHelp_29 ?_
          refine x_goto hC 4 dX1_withHelp_32 rfl ?_
          refine x_lv [2, 1, 0] rfl ?_
          exact ih4 (s + 0) (i + 1) (by omega) (by rw [hs]; simp [sumN, h19]) (by omega)
        · -- 19 F
          refine x_iconst hC (v := (nI 1)) dX1_withHelp_22 rfl ?_
          refine x_goto hC 27 dX1_withHelp_23 rfl ?_
          refine x_iaddE hC (z := (nI (s + 1))) (nI_add _ _) dX1_withHelp_27 ?_
          refine x_istore_n hC [(1, .int (nI (s + 1))), (0, .ref (a 3)), (2, .int (nI i))] rfl (lt_n hn rfl) dX1_withHelp_28 ?_
          refine x_iinc hC (z := 1) (v := (nI (i + 1))) 2 rfl (nI_add i 1) [(2, .int (nI (i + 1))), (1, .int (nI (s + 1))), (0, .ref (a 3))] rfl (lt_n hn rfl) dX1_withHelp_29 ?_
          refine x_goto hC 4 dX1_withHelp_32 rfl ?_
          refine x_lv [2, 1, 0] rfl ?_
          exact ih4 (s + 1) (i + 1) (by omega) (by rw [hs]; simp [sumN, h19]) (by omega)
  exact L4 _ 0 0 (Nat.lt_succ_self _) rfl (by omega)
set_option maxHeartbeats 4000000 in
set_option maxRecDepth 100000 in
theorem c_X1_nearest {l : Launch} {D : va_G} {c : Nat → ClassId} {a : Nat → Nat} {μ : Me} {w op m : Nat} {nm : Nat → Nat} (h3 : μ 0 3 = nI m) (hm : m ≤ 8) (h12 : ∀ j, j < m → μ 12 j = nI (nm j)) (hw : w < 16384) (ho : op < 16384) : KI l D (tyE c) (xw c a) yX1_nearest cX1_nearest 7 .int (rmL 2) [.ref (a 3), .int (nI w), .int (nI op)] μ (fun r u => ((m = 0 ∧ r = zI (-1)) ∨ (0 < m ∧ r = nI (amin (fun j => pc ((nm j ^^^ w) &&& op)) m))) ∧ μ = u) := by
  refine x_enterI (by decide) (Nat.le_of_ble_eq_true rfl) (fun F hl hD hn hRm hC hR => ?_)
  subst hl hD
  change XW F 0 0 (xw c a μ) [(0, .ref (a 3)), (1, .int (nI w)), (2, .int (nI op))] 0 []
  change FC F cX1_nearest RX1 (tyE c) at hC
  refine x_iconst hC (v := (zI (-1))) dX1_nearest_0 rfl ?_
  refine x_istore_n hC [(3, .int (zI (-1))), (0, .ref (a 3)), (1, .int (nI w)), (2, .int (nI op))] rfl (lt_n hn rfl) dX1_nearest_1 ?_
  refine x_iconst hC (v := (nI 0)) dX1_nearest_2 rfl ?_
  refine x_istore hC [(4, .int (nI 0)), (3, .int (zI (-1))), (0, .ref (a 3)), (1, .int (nI w)), (2, .int (nI op))] rfl (lt_n hn rfl) dX1_nearest_3 ?_
  refine x_iconst hC (v := (nI 0)) dX1_nearest_5 rfl ?_
  refine x_istore hC [(5, .int (nI 0)), (4, .int (nI 0)), (3, .int (zI (-1))), (0, .ref (a 3)), (1, .int (nI w)), (2, .int (nI op))] rfl (lt_n hn rfl) dX1_nearest_6 ?_
  refine x_lv [3, 4, 5, 2, 1, 0] rfl ?_
  have L8 : ∀ (N8 : Nat) (b : Int) (fw : Nat) (i : Nat), m - i < N8 → (i ≤ m) → ((i = 0 ∧ b = -1 ∧ fw = 0) ∨ (0 < i ∧ b = (amin (fun j => pc ((nm j ^^^ w) &&& op)) i : Int) ∧ fw = pc ((nm (amin (fun j => pc ((nm j ^^^ w) &&& op)) i) ^^^ w) &&& op))) → XW F 0 0 (xw c a μ) [(0, .ref (a 3)), (1, .int (nI w)), (2, .int (nI op)), (3, .int (zI b)), (4, .int (nI fw)), (5, .int (nI i))] 8 [] := by
    intro N8
    induction N8 with
    | zero => intro b fw i hN8 hi hb; exact absurd hN8 (by omega)
    | succ N8 ih8 =>
      intro b fw i hN8 hi hb
      have hdl : ∀ j, pc ((nm j ^^^ w) &&& op) ≤ 14 := fun j => pc_le _
      rcases hb with ⟨rfl, rfl, rfl⟩ | ⟨hi0, rfl, rfl⟩
      · skip
        change XW F 0 0 (xw c a μ) [(0, .ref (a 3)), (1, .int (nI w)), (2, .int (nI op)), (3, .int (zI (-1))), (4, .int (nI 0)), (5, .int (nI 0))] 8 []
        refine x_iload hC 5 rfl dX1_nearest_8 ?_
        refine x_aload_n hC 0 rfl dX1_nearest_10 ?_
        refine x_get hC fl_X1_7 dX1_nearest_11 3 rfl (v := .int (nI m)) (xv h3) ?_
        refine x_icmp_geN hC 57 dX1_nearest_14 rfl (by decide) (by omega) (fun h14 => ?_) (fun h14 => ?_)
        · -- 14 T
          refine x_iload_n hC 3 rfl dX1_nearest_57 ?_
          exact x_iret hC hR dX1_nearest_58 (⟨Or.inl ⟨by omega, rfl⟩, rfl⟩)
        · -- 14 F
          refine x_aload_n hC 0 rfl dX1_nearest_17 ?_
          refine x_get hC fl_X1_13 dX1_nearest_18 3 rfl rfl ?_
          refine x_iload hC 5 rfl dX1_nearest_21 ?_
          refine x_iald hC 12 0 rfl rfl (y := (nI (nm 0))) (by decide) (by decide) (h12 0 (by omega)) dX1_nearest_23 ?_
          refine x_iload_n hC 1 rfl dX1_nearest_24 ?_
          refine x_ixorE hC (z := (nI ((nm 0) ^^^ w))) (nI_xor _ _) dX1_nearest_25 ?_
          refine x_iload_n hC 2 rfl dX1_nearest_26 ?_
          refine x_iandE hC (z := (nI (((nm 0) ^^^ w) &&& op))) (nI_and _ _) dX1_nearest_27 ?_
          refine x_callN hC cs_X1_27 (c_J6_bitCount_0f7a4 (w := (((nm 0) ^^^ w) &&& op))  (and_lt14 ho)) dX1_nearest_28 [] rfl (Nat.le_of_ble_eq_true rfl) rfl (rm_ok hRm (by decide) (by decide)) ?_
          refine x_istore hC [(6, .int (nI (pc (((nm 0) ^^^ w) &&& op)))), (0, .ref (a 3)), (1, .int (nI w)), (2, .int (nI op)), (3, .int (zI (-1))), (4, .int (nI 0)), (5, .int (nI 0))] rfl (lt_n hn rfl) dX1_nearest_31 ?_
          refine x_iload_n hC 4 rfl dX1_nearest_33 ?_
          refine x_if_lt_T hC 44 dX1_nearest_34 rfl (by decide) ?_
          refine x_iload hC 0 rfl dX1_nearest_44 ?_
          refine x_istore hC [(4, .int (nI (pc (((nm 0) ^^^ w) &&& op)))), (6, .int (nI (pc (((nm 0) ^^^ w) &&& op)))), (0, .ref (a 3)), (1, .int (nI w)), (2, .int (nI op)), (3, .int (zI (-1))), (5, .int (nI 0))] rfl (lt_n hn rfl) dX1_nearest_46 ?_
          refine x_iload hC 6 rfl dX1_nearest_48 ?_
          refine x_istore_n hC [(3, .int (nI 0)), (4, .int (nI (pc (((nm 0) ^^^ w) &&& op)))), (6, .int (nI (pc (((nm 0) ^^^ w) &&& op)))), (0, .ref (a 3)), (1, .int (nI w)), (2, .int (nI op)), (5, .int (nI 0))] rfl (lt_n hn rfl) dX1_nearest_50 ?_
          refine x_iinc hC (z := 1) (v := (nI 1)) 6 rfl (rfl) [(5, .int (nI 1)), (3, .int (nI 0)), (4, .int (nI (pc (((nm 0) ^^^ w) &&& op)))), (6, .int (nI (pc (((nm 0) ^^^ w) &&& op)))), (0, .ref (a 3)), (1, .int (nI w)), (2, .int (nI op))] rfl (lt_n hn rfl) dX1_nearest_51 ?_
          refine x_goto hC 8 dX1_nearest_54 rfl ?_
          refine x_lv [4, 5, 6, 1, 2, 0] rfl ?_
          exact ih8 0 (pc (((nm 0) ^^^ w) &&& op)) 1 (by omega) (by omega) (Or.inr ⟨by omega, by rw [amin_1]; rfl, by rw [amin_1]⟩)
      · skip
        change XW F 0 0 (xw c a μ) [(0, .ref (a 3)), (1, .int (nI w)), (2, .int (nI op)), (3, .int (nI (amin (fun j => pc ((nm j ^^^ w) &&& op)) i))), (4, .int (nI (pc ((nm (amin (fun j => pc ((nm j ^^^ w) &&& op)) i) ^^^ w) &&& op)))), (5, .int (nI i))] 8 []
        refine x_iload hC 5 rfl dX1_nearest_8 ?_
        refine x_aload_n hC 0 rfl dX1_nearest_10 ?_
        refine x_get hC fl_X1_7 dX1_nearest_11 3 rfl (v := .int (nI m)) (xv h3) ?_
        refine x_icmp_geN hC 57 dX1_nearest_14 rfl (by omega) (by omega) (fun h14 => ?_) (fun h14 => ?_)
        · -- 14 T
          refine x_iload_n hC 3 rfl dX1_nearest_57 ?_
          exact x_iret hC hR dX1_nearest_58 (⟨Or.inr ⟨by omega, by rw [show i = m by omega]⟩, rfl⟩)
        · -- 14 F
          refine x_aload_n hC 0 rfl dX1_nearest_17 ?_
          refine x_get hC fl_X1_13 dX1_nearest_18 3 rfl rfl ?_
          refine x_iload hC 5 rfl dX1_nearest_21 ?_
          refine x_iald hC 12 0 rfl rfl (y := (nI (nm i))) (by omega) (by decide) (h12 i (by omega)) dX1_nearest_23 ?_
          refine x_iload_n hC 1 rfl dX1_nearest_24 ?_
          refine x_ixorE hC (z := (nI ((nm i) ^^^ w))) (nI_xor _ _) dX1_nearest_25 ?_
          refine x_iload_n hC 2 rfl dX1_nearest_26 ?_
          refine x_iandE hC (z := (nI (((nm i) ^^^ w) &&& op))) (nI_and _ _) dX1_nearest_27 ?_
          refine x_callN hC cs_X1_27 (c_J6_bitCount_0f7a4 (w := (((nm i) ^^^ w) &&& op))  (and_lt14 ho)) dX1_nearest_28 [] rfl (Nat.le_of_ble_eq_true rfl) rfl (rm_ok hRm (by decide) (by decide)) ?_
          refine x_istore hC [(6, .int (nI (pc (((nm i) ^^^ w) &&& op)))), (0, .ref (a 3)), (1, .int (nI w)), (2, .int (nI op)), (3, .int (nI (amin (fun j => pc ((nm j ^^^ w) &&& op)) i))), (4, .int (nI (pc ((nm (amin (fun j => pc ((nm j ^^^ w) &&& op)) i) ^^^ w) &&& op)))), (5, .int (nI i))] rfl (lt_n hn rfl) dX1_nearest_31 ?_
          refine x_iload_n hC 4 rfl dX1_nearest_33 ?_
          refine x_if_lt_F hC 44 dX1_nearest_34 rfl (by rw [i32_lt, i32_0, nI_toI (by have := amin_lt (fun j => pc ((nm j ^^^ w) &&& op)) hi0; omega)]; omega) ?_
          refine x_iload hC 0 rfl dX1_nearest_37 ?_
          refine x_iload hC 5 rfl dX1_nearest_39 ?_
          refine x_icmp_geN hC 51 dX1_nearest_41 rfl (by have := pc_le ((nm i ^^^ w) &&& op); omega) (by have := hdl (amin (fun j => pc ((nm j ^^^ w) &&& op)) i); omega) (fun h41 => ?_) (fun h41 => ?_)
          · -- 41 T
            refine x_iinc hC (z := 1) (v := (nI (i + 1))) 6 rfl (nI_add i 1) [(5, .int (nI (i + 1))), (6, .int (nI (pc (((nm i) ^^^ w) &&& op)))), (0, .ref (a 3)), (1, .int (nI w)), (2, .int (nI op)), (3, .int (nI (amin (fun j => pc ((nm j ^^^ w) &&& op)) i))), (4, .int (nI (pc ((nm (amin (fun j => pc ((nm j ^^^ w) &&& op)) i) ^^^ w) &&& op))))] rfl (lt_n hn rfl) dX1_nearest_51 ?_
            refine x_goto hC 8 dX1_nearest_54 rfl ?_
            refine x_lv [2, 3, 4, 5, 6, 0] rfl ?_
            exact ih8 ((amin (fun j => pc ((nm j ^^^ w) &&& op)) i) : Int) (pc ((nm (amin (fun j => pc ((nm j ^^^ w) &&& op)) i) ^^^ w) &&& op)) (i + 1) (by omega) (by omega) (Or.inr ⟨by omega, by rw [amin_S, if_neg (Nat.not_lt.mpr h41)], by rw [amin_S, if_neg (Nat.not_lt.mpr h41)]⟩)
          · -- 41 F
            refine x_iload hC 0 rfl dX1_nearest_44 ?_
            refine x_istore hC [(4, .int (nI (pc (((nm i) ^^^ w) &&& op)))), (6, .int (nI (pc (((nm i) ^^^ w) &&& op)))), (0, .ref (a 3)), (1, .int (nI w)), (2, .int (nI op)), (3, .int (nI (amin (fun j => pc ((nm j ^^^ w) &&& op)) i))), (5, .int (nI i))] rfl (lt_n hn rfl) dX1_nearest_46 ?_
            refine x_iload hC 6 rfl dX1_nearest_48 ?_
            refine x_istore_n hC [(3, .int (nI i)), (4, .int (nI (pc (((nm i) ^^^ w) &&& op)))), (6, .int (nI (pc (((nm i) ^^^ w) &&& op)))), (0, .ref (a 3)), (1, .int (nI w)), (2, .int (nI op)), (5, .int (nI i))] rfl (lt_n hn rfl) dX1_nearest_50 ?_
            refine x_iinc hC (z := 1) (v := (nI (i + 1))) 6 rfl (nI_add i 1) [(5, .int (nI (i + 1))), (3, .int (nI i)), (4, .int (nI (pc (((nm i) ^^^ w) &&& op)))), (6, .int (nI (pc (((nm i) ^^^ w) &&& op)))), (0, .ref (a 3)), (1, .int (nI w)), (2, .int (nI op))] rfl (lt_n hn rfl) dX1_nearest_51 ?_
            refine x_goto hC 8 dX1_nearest_54 rfl ?_
            refine x_lv [4, 5, 6, 1, 2, 0] rfl ?_
            exact ih8 (i : Int) (pc (((nm i) ^^^ w) &&& op)) (i + 1) (by omega) (by omega) (Or.inr ⟨by omega, by rw [amin_S, if_pos h41], by rw [amin_S, if_pos h41]⟩)
  exact L8 _ (-1) 0 0 (Nat.lt_succ_self _) (by omega) (Or.inl ⟨rfl, rfl, rfl⟩)
set_option maxHeartbeats 4000000 in
set_option maxRecDepth 100000 in
theorem c_X1_hasLoneNearest {l : Launch} {D : va_G} {c : Nat → ClassId} {a : Nat → Nat} {μ : Me} {w op m : Nat} {nm : Nat → Nat} (h3 : μ 0 3 = nI m) (hm : m ≤ 8) (h12 : ∀ j, j < m → μ 12 j = nI (nm j)) (hw : w < 16384) (ho : op < 16384) : KI l D (tyE c) (xw c a) yX1_hasLoneNearest cX1_hasLoneNearest 6 .boolean (rmL 3) [.ref (a 3), .int (nI w), .int (nI op)] μ (fun r u => r = bz (lone (fun j => pc ((nm j ^^^ w) &&& op)) m) ∧ μ = u) := by
  refine x_enterI (by decide) (Nat.le_of_ble_eq_true rfl) (fun F hl hD hn hRm hC hR => ?_)
  subst hl hD
  change XW F 0 0 (xw c a μ) [(0, .ref (a 3)), (1, .int (nI w)), (2, .int (nI op))] 0 []
  change FC F cX1_hasLoneNearest RX1 (tyE c) at hC
  refine x_aload_n hC 0 rfl dX1_hasLoneNearest_0 ?_
  refine x_iload_n hC 1 rfl dX1_hasLoneNearest_1 ?_
  refine x_iload_n hC 2 rfl dX1_hasLoneNearest_2 ?_
  refine x_callVI hC cw_X1_33 (c_X1_nearest (w := w) (op := op) (m := m) (nm := nm) (by first | assumption | omega) (by first | assumption | omega) (by first | assumption | omega) (by first | assumption | omega) (by first | assumption | omega)) dX1_hasLoneNearest_3 [] rfl (Nat.le_of_ble_eq_true rfl) rfl (rm_ok hRm (by decide) (by decide)) 1 3 rfl rfl (fun r3 m3 hp3 => ?_)
  obtain ⟨hqhp3, rfl⟩ := hp3
  rcases hqhp3 with ⟨hm0, rfl⟩ | ⟨hm0, rfl⟩
  · skip
    refine x_istore_n hC [(3, .int (zI (-1))), (0, .ref (a 3)), (1, .int (nI w)), (2, .int (nI op))] rfl (lt_n hn rfl) dX1_hasLoneNearest_6 ?_
    refine x_iload_n hC 0 rfl dX1_hasLoneNearest_7 ?_
    refine x_if_ge_F hC 13 dX1_hasLoneNearest_8 rfl (by decide) ?_
    refine x_iconst hC (v := (nI 0)) dX1_hasLoneNearest_11 rfl ?_
    exact x_zret hC hR dX1_hasLoneNearest_12 rfl (⟨by rw [lone, hm0]; rfl, rfl⟩)
  · skip
    refine x_istore_n hC [(3, .int (nI (amin (fun j => pc ((nm j ^^^ w) &&& op)) m))), (0, .ref (a 3)), (1, .int (nI w)), (2, .int (nI op))] rfl (lt_n hn rfl) dX1_hasLoneNearest_6 ?_
    refine x_iload_n hC 0 rfl dX1_hasLoneNearest_7 ?_
    refine x_if_ge_T hC 13 dX1_hasLoneNearest_8 rfl (by rw [i32_le, i32_0, nI_toI (by have := amin_lt (fun j => pc ((nm j ^^^ w) &&& op)) hm0; omega)]; omega) ?_
    have hal := amin_lt (fun j => pc ((nm j ^^^ w) &&& op)) hm0
    have hdl : ∀ j, pc ((nm j ^^^ w) &&& op) ≤ 14 := fun j => pc_le _
    refine x_aload_n hC 1 rfl dX1_hasLoneNearest_13 ?_
    refine x_get hC fl_X1_13 dX1_hasLoneNearest_14 3 rfl rfl ?_
    refine x_iload_n hC 0 rfl dX1_hasLoneNearest_17 ?_
    refine x_iald hC 12 0 rfl rfl (y := (nI (nm (amin (fun j => pc ((nm j ^^^ w) &&& op)) m)))) (by omega) (by decide) (h12 (amin (fun j => pc ((nm j ^^^ w) &&& op)) m) (by omega)) dX1_hasLoneNearest_18 ?_
    refine x_iload_n hC 2 rfl dX1_hasLoneNearest_19 ?_
    refine x_ixorE hC (z := (nI ((nm (amin (fun j => pc ((nm j ^^^ w) &&& op)) m)) ^^^ w))) (nI_xor _ _) dX1_hasLoneNearest_20 ?_
    refine x_iload_n hC 3 rfl dX1_hasLoneNearest_21 ?_
    refine x_iandE hC (z := (nI (((nm (amin (fun j => pc ((nm j ^^^ w) &&& op)) m)) ^^^ w) &&& op))) (nI_and _ _) dX1_hasLoneNearest_22 ?_
    refine x_callN hC cs_X1_27 (c_J6_bitCount_0f7a4 (w := (((nm (amin (fun j => pc ((nm j ^^^ w) &&& op)) m)) ^^^ w) &&& op))  (and_lt14 ho)) dX1_hasLoneNearest_23 [] rfl (Nat.le_of_ble_eq_true rfl) rfl (rm_ok hRm (by decide) (by decide)) ?_
    refine x_iconst hC (v := (nI 3)) dX1_hasLoneNearest_26 rfl ?_
    refine x_iaddE hC (z := (nI ((pc (((nm (amin (fun j => pc ((nm j ^^^ w) &&& op)) m)) ^^^ w) &&& op)) + 3))) (nI_add _ _) dX1_hasLoneNearest_27 ?_
    refine x_istore hC [(4, .int (nI ((pc (((nm (amin (fun j => pc ((nm j ^^^ w) &&& op)) m)) ^^^ w) &&& op)) + 3))), (3, .int (nI (amin (fun j => pc ((nm j ^^^ w) &&& op)) m))), (0, .ref (a 3)), (1, .int (nI w)), (2, .int (nI op))] rfl (lt_n hn rfl) dX1_hasLoneNearest_28 ?_
    refine x_iconst hC (v := (nI 0)) dX1_hasLoneNearest_30 rfl ?_
    refine x_istore hC [(5, .int (nI 0)), (4, .int (nI ((pc (((nm (amin (fun j => pc ((nm j ^^^ w) &&& op)) m)) ^^^ w) &&& op)) + 3))), (3, .int (nI (amin (fun j => pc ((nm j ^^^ w) &&& op)) m))), (0, .ref (a 3)), (1, .int (nI w)), (2, .int (nI op))] rfl (lt_n hn rfl) dX1_hasLoneNearest_31 ?_
    refine x_lv [3, 4, 5, 2, 1, 0] rfl ?_
    have L33 : ∀ (N33 : Nat) (i : Nat), m - i < N33 → (i ≤ m) → (allN (fun j => decide (j = amin (fun j => pc ((nm j ^^^ w) &&& op)) m ∨ (fun j => pc ((nm j ^^^ w) &&& op)) (amin (fun j => pc ((nm j ^^^ w) &&& op)) m) + 3 ≤ (fun j => pc ((nm j ^^^ w) &&& op)) j)) i = true) → XW F 0 0 (xw c a μ) [(0, .ref (a 3)), (1, .int (nI w)), (2, .int (nI op)), (3, .int (nI (amin (fun j => pc ((nm j ^^^ w) &&& op)) m))), (4, .int (nI (pc ((nm (amin (fun j => pc ((nm j ^^^ w) &&& op)) m) ^^^ w) &&& op) + 3))), (5, .int (nI i))] 33 [] := by
      intro N33
      induction N33 with
      | zero => intro i hN33 hi ha; exact absurd hN33 (by omega)
      | succ N33 ih33 =>
        intro i hN33 hi ha
        refine x_iload hC 5 rfl dX1_hasLoneNearest_33 ?_
        refine x_aload_n hC 0 rfl dX1_hasLoneNearest_35 ?_
        refine x_get hC fl_X1_7 dX1_hasLoneNearest_36 3 rfl (v := .int (nI m)) (xv h3) ?_
        refine x_icmp_geN hC 75 dX1_hasLoneNearest_39 rfl (by omega) (by omega) (fun h39 => ?_) (fun h39 => ?_)
        · -- 39 T
          refine x_iconst hC (v := (nI 1)) dX1_hasLoneNearest_75 rfl ?_
          exact x_zret hC hR dX1_hasLoneNearest_76 rfl (⟨by have hq := ha; rw [show i = m by omega] at hq; rw [lone, hq]; simp [hm0]; rfl, rfl⟩)
        · -- 39 F
          refine x_iload hC 5 rfl dX1_hasLoneNearest_42 ?_
          refine x_iload_n hC 3 rfl dX1_hasLoneNearest_44 ?_
          refine x_icmp_eqN hC 69 dX1_hasLoneNearest_45 rfl (by omega) (by omega) (fun h45 => ?_) (fun h45 => ?_)
          · -- 45 T
            refine x_iinc hC (z := 1) (v := (nI (i + 1))) 5 rfl (nI_add i 1) [(5, .int (nI (i + 1))), (0, .ref (a 3)), (1, .int (nI w)), (2, .int (nI op)), (3, .int (nI (amin (fun j => pc ((nm j ^^^ w) &&& op)) m))), (4, .int (nI (pc ((nm (amin (fun j => pc ((nm j ^^^ w) &&& op)) m) ^^^ w) &&& op) + 3)))] rfl (lt_n hn rfl) dX1_hasLoneNearest_69 ?_
            refine x_goto hC 33 dX1_hasLoneNearest_72 rfl ?_
            refine x_lv [1, 2, 3, 4, 5, 0] rfl ?_
            exact ih33 (i + 1) (by omega) (by omega) (by simp only [allN, ha, Bool.true_and, decide_eq_true_eq]; first | exact Or.inl h45 | exact Or.inr h64)
          · -- 45 F
            refine x_aload_n hC 0 rfl dX1_hasLoneNearest_48 ?_
            refine x_get hC fl_X1_13 dX1_hasLoneNearest_49 3 rfl rfl ?_
            refine x_iload hC 5 rfl dX1_hasLoneNearest_52 ?_
            refine x_iald hC 12 0 rfl rfl (y := (nI (nm i))) (by omega) (by decide) (h12 i (by omega)) dX1_hasLoneNearest_54 ?_
            refine x_iload_n hC 1 rfl dX1_hasLoneNearest_55 ?_
            refine x_ixorE hC (z := (nI ((nm i) ^^^ w))) (nI_xor _ _) dX1_hasLoneNearest_56 ?_
            refine x_iload_n hC 2 rfl dX1_hasLoneNearest_57 ?_
            refine x_iandE hC (z := (nI (((nm i) ^^^ w) &&& op))) (nI_and _ _) dX1_hasLoneNearest_58 ?_
            refine x_callN hC cs_X1_27 (c_J6_bitCount_0f7a4 (w := (((nm i) ^^^ w) &&& op))  (and_lt14 ho)) dX1_hasLoneNearest_59 [] rfl (Nat.le_of_ble_eq_true rfl) rfl (rm_ok hRm (by decide) (by decide)) ?_
            refine x_iload hC 4 rfl dX1_hasLoneNearest_62 ?_
            refine x_icmp_geN hC 69 dX1_hasLoneNearest_64 rfl (by have := hdl i; omega) (by have := hdl (amin (fun j => pc ((nm j ^^^ w) &&& op)) m); omega) (fun h64 => ?_) (fun h64 => ?_)
            · -- 64 T
              refine x_iinc hC (z := 1) (v := (nI (i + 1))) 5 rfl (nI_add i 1) [(5, .int (nI (i + 1))), (0, .ref (a 3)), (1, .int (nI w)), (2, .int (nI op)), (3, .int (nI (amin (fun j => pc ((nm j ^^^ w) &&& op)) m))), (4, .int (nI (pc ((nm (amin (fun j => pc ((nm j ^^^ w) &&& op)) m) ^^^ w) &&& op) + 3)))] rfl (lt_n hn rfl) dX1_hasLoneNearest_69 ?_
              refine x_goto hC 33 dX1_hasLoneNearest_72 rfl ?_
              refine x_lv [1, 2, 3, 4, 5, 0] rfl ?_
              exact ih33 (i + 1) (by omega) (by omega) (by simp only [allN, ha, Bool.true_and, decide_eq_true_eq]; first | exact Or.inl h45 | exact Or.inr h64)
            · -- 64 F
              refine x_iconst hC (v := (nI 0)) dX1_hasLoneNearest_67 rfl ?_
              exact x_zret hC hR dX1_hasLoneNearest_68 rfl (⟨by rw [lone, allN_F (i := i) (by omega) (by simp only [decide_eq_false_iff_not]; omega), Bool.and_false]; rfl, rfl⟩)
    exact L33 _ 0 (Nat.lt_succ_self _) (by omega) rfl
set_option maxHeartbeats 4000000 in
set_option maxRecDepth 100000 in
theorem c_X1_fewestApart {l : Launch} {D : va_G} {c : Nat → ClassId} {a : Nat → Nat} {μ : Me} {op m : Nat} {nm : Nat → Nat} (h3 : μ 0 3 = nI m) (hm : m ≤ 8) (h12 : ∀ j, j < m → μ 12 j = nI (nm j)) (ho : op < 16384) : KI l D (tyE c) (xw c a) yX1_fewestApart cX1_fewestApart 5 .int (rmL 2) [.ref (a 3), .int (nI op)] μ (fun r u => r = nI (mall (fun x y => pc ((nm x ^^^ nm y) &&& op)) 14 m) ∧ μ = u) := by
  refine x_enterI (by decide) (Nat.le_of_ble_eq_true rfl) (fun F hl hD hn hRm hC hR => ?_)
  subst hl hD
  change XW F 0 0 (xw c a μ) [(0, .ref (a 3)), (1, .int (nI op))] 0 []
  change FC F cX1_fewestApart RX1 (tyE c) at hC
  refine x_bipush hC (v := (nI 14)) dX1_fewestApart_0 rfl ?_
  refine x_istore_n hC [(2, .int (nI 14)), (0, .ref (a 3)), (1, .int (nI op))] rfl (lt_n hn rfl) dX1_fewestApart_2 ?_
  refine x_iconst hC (v := (nI 0)) dX1_fewestApart_3 rfl ?_
  refine x_istore_n hC [(3, .int (nI 0)), (2, .int (nI 14)), (0, .ref (a 3)), (1, .int (nI op))] rfl (lt_n hn rfl) dX1_fewestApart_4 ?_
  refine x_lv [2, 3, 1, 0] rfl ?_
  have L5 : ∀ (N5 : Nat) (fw : Nat) (i : Nat), m - i < N5 → (fw = mall (fun x y => pc ((nm x ^^^ nm y) &&& op)) 14 i) → (i ≤ m) → XW F 0 0 (xw c a μ) [(0, .ref (a 3)), (1, .int (nI op)), (2, .int (nI fw)), (3, .int (nI i))] 5 [] := by
    intro N5
    induction N5 with
    | zero => intro fw i hN5 hs hi; exact absurd hN5 (by omega)
    | succ N5 ih5 =>
      intro fw i hN5 hs hi
      refine x_iload_n hC 3 rfl dX1_fewestApart_5 ?_
      refine x_aload_n hC 0 rfl dX1_fewestApart_6 ?_
      refine x_get hC fl_X1_7 dX1_fewestApart_7 3 rfl (v := .int (nI m)) (xv h3) ?_
      refine x_icmp_geN hC 58 dX1_fewestApart_10 rfl (by omega) (by omega) (fun h10 => ?_) (fun h10 => ?_)
      · -- 10 T
        refine x_iload_n hC 2 rfl dX1_fewestApart_58 ?_
        exact x_iret hC hR dX1_fewestApart_59 (⟨by rw [hs, show i = m by omega], rfl⟩)
      · -- 10 F
        refine x_iconst hC (v := (nI 0)) dX1_fewestApart_13 rfl ?_
        refine x_istore hC [(4, .int (nI 0)), (0, .ref (a 3)), (1, .int (nI op)), (2, .int (nI fw)), (3, .int (nI i))] rfl (lt_n hn rfl) dX1_fewestApart_14 ?_
        refine x_lv [1, 2, 3, 4, 0] rfl ?_
        have L16 : ∀ (N16 : Nat) (fv : Nat) (j : Nat), i - j < N16 → (fv = mrow ((fun x y => pc ((nm x ^^^ nm y) &&& op)) i) fw j) → (j ≤ i) → (fv ≤ 14) → XW F 0 0 (xw c a μ) [(0, .ref (a 3)), (1, .int (nI op)), (2, .int (nI fv)), (3, .int (nI i)), (4, .int (nI j))] 16 [] := by
          intro N16
          induction N16 with
          | zero => intro fv j hN16 hv hj hfb; exact absurd hN16 (by omega)
          | succ N16 ih16 =>
            intro fv j hN16 hv hj hfb
            refine x_iload hC 4 rfl dX1_fewestApart_16 ?_
            refine x_iload_n hC 3 rfl dX1_fewestApart_18 ?_
            refine x_icmp_geN hC 52 dX1_fewestApart_19 rfl (by omega) (by omega) (fun h19 => ?_) (fun h19 => ?_)
            · -- 19 T
              refine x_iinc hC (z := 1) (v := (nI (i + 1))) 3 rfl (nI_add i 1) [(3, .int (nI (i + 1))), (0, .ref (a 3)), (1, .int (nI op)), (2, .int (nI fv)), (4, .int (nI j))] rfl (lt_n hn rfl) dX1_fewestApart_52 ?_
              refine x_goto hC 5 dX1_fewestApart_55 rfl ?_
              refine x_lv [1, 2, 3, 0] rfl ?_
              exact ih5 fv (i + 1) (by omega) (by rw [hv, show j = i by omega, hs]; rfl) (by omega)
            · -- 19 F
              refine x_iload_n hC 2 rfl dX1_fewestApart_22 ?_
              refine x_aload_n hC 0 rfl dX1_fewestApart_23 ?_
              refine x_get hC fl_X1_13 dX1_fewestApart_24 3 rfl rfl ?_
              refine x_iload_n hC 3 rfl dX1_fewestApart_27 ?_
              refine x_iald hC 12 0 rfl rfl (y := (nI (nm i))) (by omega) (by decide) (h12 i (by omega)) dX1_fewestApart_28 ?_
              refine x_aload_n hC 0 rfl dX1_fewestApart_29 ?_
              refine x_get hC fl_X1_13 dX1_fewestApart_30 3 rfl rfl ?_
              refine x_iload hC 4 rfl dX1_fewestApart_33 ?_
              refine x_iald hC 12 0 rfl rfl (y := (nI (nm j))) (by omega) (by decide) (h12 j (by omega)) dX1_fewestApart_35 ?_
              refine x_ixorE hC (z := (nI ((nm i) ^^^ (nm j)))) (nI_xor _ _) dX1_fewestApart_36 ?_
              refine x_iload_n hC 1 rfl dX1_fewestApart_37 ?_
              refine x_iandE hC (z := (nI (((nm i) ^^^ (nm j)) &&& op))) (nI_and _ _) dX1_fewestApart_38 ?_
              refine x_callN hC cs_X1_27 (c_J6_bitCount_0f7a4 (w := (((nm i) ^^^ (nm j)) &&& op))  (and_lt14 ho)) dX1_fewestApart_39 [.int (nI fv)] rfl (Nat.le_of_ble_eq_true rfl) rfl (rm_ok hRm (by decide) (by decide)) ?_
              refine x_min hC cm_X1_39 dX1_fewestApart_42 (v := (nI (min fv (pc ((nm i ^^^ nm j) &&& op))))) (nI_min (by omega) (by have := pc_le ((nm i ^^^ nm j) &&& op); omega)) (by rw [hRm]; decide) (by rw [hRm]; exact Nat.le_of_ble_eq_true rfl) (by rw [hRm]; decide) (by rw [hRm]; decide) ?_
              refine x_istore_n hC [(2, .int (nI (min fv (pc ((nm i ^^^ nm j) &&& op))))), (0, .ref (a 3)), (1, .int (nI op)), (3, .int (nI i)), (4, .int (nI j))] rfl (lt_n hn rfl) dX1_fewestApart_45 ?_
              refine x_iinc hC (z := 1) (v := (nI (j + 1))) 4 rfl (nI_add j 1) [(4, .int (nI (j + 1))), (2, .int (nI (min fv (pc ((nm i ^^^ nm j) &&& op))))), (0, .ref (a 3)), (1, .int (nI op)), (3, .int (nI i))] rfl (lt_n hn rfl) dX1_fewestApart_46 ?_
              refine x_goto hC 16 dX1_fewestApart_49 rfl ?_
              refine x_lv [2, 3, 1, 4, 0] rfl ?_
              exact ih16 (min fv (pc ((nm i ^^^ nm j) &&& op))) (j + 1) (by omega) (by rw [hv]; rfl) (by omega) (by omega)
        exact L16 _ fw 0 (Nat.lt_succ_self _) rfl (by omega) (by rw [hs]; exact mall_le _ _ _)
  exact L5 _ 14 0 (Nat.lt_succ_self _) rfl (by omega)
set_option maxHeartbeats 4000000 in
set_option maxRecDepth 100000 in
theorem c_X1_onesAt {l : Launch} {D : va_G} {c : Nat → ClassId} {a : Nat → Nat} {μ : Me} {t m : Nat} {nm : Nat → Nat} (h3 : μ 0 3 = nI m) (hm : m ≤ 8) (h12 : ∀ j, j < m → μ 12 j = nI (nm j)) (hnb : ∀ j, j < m → nm j < 2 ^ 31) (ht : t < 32) : KI l D (tyE c) (xw c a) yX1_onesAt cX1_onesAt 4 .int (rmL 1) [.ref (a 3), .int (nI t)] μ (fun r u => r = nI (sumN (fun j => bt (nm j) t) m) ∧ μ = u) := by
  refine x_enterI (by decide) (Nat.le_of_ble_eq_true rfl) (fun F hl hD hn hRm hC hR => ?_)
  subst hl hD
  change XW F 0 0 (xw c a μ) [(0, .ref (a 3)), (1, .int (nI t))] 0 []
  change FC F cX1_onesAt RX1 (tyE c) at hC
  refine x_iconst hC (v := (nI 0)) dX1_onesAt_0 rfl ?_
  refine x_istore_n hC [(2, .int (nI 0)), (0, .ref (a 3)), (1, .int (nI t))] rfl (lt_n hn rfl) dX1_onesAt_1 ?_
  refine x_iconst hC (v := (nI 0)) dX1_onesAt_2 rfl ?_
  refine x_istore_n hC [(3, .int (nI 0)), (2, .int (nI 0)), (0, .ref (a 3)), (1, .int (nI t))] rfl (lt_n hn rfl) dX1_onesAt_3 ?_
  refine x_lv [2, 3, 1, 0] rfl ?_
  have L4 : ∀ (N4 : Nat) (s : Nat) (i : Nat), m - i < N4 → (s = sumN (fun j => bt (nm j) t) i) → (i ≤ m) → XW F 0 0 (xw c a μ) [(0, .ref (a 3)), (1, .int (nI t)), (2, .int (nI s)), (3, .int (nI i))] 4 [] := by
    intro N4
    induction N4 with
    | zero => intro s i hN4 hs hi; exact absurd hN4 (by omega)
    | succ N4 ih4 =>
      intro s i hN4 hs hi
      refine x_iload_n hC 3 rfl dX1_onesAt_4 ?_
      refine x_aload_n hC 0 rfl dX1_onesAt_5 ?_
      refine x_get hC fl_X1_7 dX1_onesAt_6 3 rfl (v := .int (nI m)) (xv h3) ?_
      refine x_icmp_geN hC 31 dX1_onesAt_9 rfl (by omega) (by omega) (fun h9 => ?_) (fun h9 => ?_)
      · -- 9 T
        refine x_iload_n hC 2 rfl dX1_onesAt_31 ?_
        exact x_iret hC hR dX1_onesAt_32 (⟨by rw [hs, show i = m by omega], rfl⟩)
      · -- 9 F
        refine x_iload_n hC 2 rfl dX1_onesAt_12 ?_
        refine x_aload_n hC 0 rfl dX1_onesAt_13 ?_
        refine x_get hC fl_X1_13 dX1_onesAt_14 3 rfl rfl ?_
        refine x_iload_n hC 3 rfl dX1_onesAt_17 ?_
        refine x_iald hC 12 0 rfl rfl (y := (nI (nm i))) (by omega) (by decide) (h12 i (by omega)) dX1_onesAt_18 ?_
        refine x_iload_n hC 1 rfl dX1_onesAt_19 ?_
        refine x_ishrE hC (z := (nI ((nm i) / 2 ^ t))) (nI_shr (hnb i (by omega)) (by omega)) dX1_onesAt_20 ?_
        refine x_iconst hC (v := (nI 1)) dX1_onesAt_21 rfl ?_
        refine x_iandE hC (z := (nI (bt (nm i) t))) (nI_and1 _) dX1_onesAt_22 ?_
        refine x_iaddE hC (z := (nI (s + (bt (nm i) t)))) (nI_add _ _) dX1_onesAt_23 ?_
        refine x_istore_n hC [(2, .int (nI (s + (bt (nm i) t)))), (0, .ref (a 3)), (1, .int (nI t)), (3, .int (nI i))] rfl (lt_n hn rfl) dX1_onesAt_24 ?_
        refine x_iinc hC (z := 1) (v := (nI (i + 1))) 3 rfl (nI_add i 1) [(3, .int (nI (i + 1))), (2, .int (nI (s + (bt (nm i) t)))), (0, .ref (a 3)), (1, .int (nI t))] rfl (lt_n hn rfl) dX1_onesAt_25 ?_
        refine x_goto hC 4 dX1_onesAt_28 rfl ?_
        refine x_lv [2, 3, 1, 0] rfl ?_
        exact ih4 (s + (bt (nm i) t)) (i + 1) (by omega) (by rw [hs]; rfl) (by omega)
  exact L4 _ 0 0 (Nat.lt_succ_self _) rfl (by omega)
