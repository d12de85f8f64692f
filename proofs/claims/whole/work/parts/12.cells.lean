/-! Cells: what each method answers -/
def lo2 (t : Nat) : Nat := if t = 2 then 1 else 0
def hi2 (t : Nat) : Nat := if t = 2 then 7 else 4
def ag (p q age : Nat) : Nat := min 4 (p + q * age / 10)
theorem nI_min {a b : Nat} (ha : a < 2147483648) (hb : b < 2147483648) : (if nI b < nI a then nI b else nI a) = nI (min a b) := by
  by_cases h : b < a
  · rw [if_pos ((nI_ltI hb ha).mpr h), Nat.min_eq_right (Nat.le_of_lt h)]
  · rw [if_neg (fun q => h ((nI_ltI hb ha).mp q)), Nat.min_eq_left (by omega)]
theorem nI_max {a b : Nat} (ha : a < 2147483648) (hb : b < 2147483648) : (if nI a < nI b then nI b else nI a) = nI (max a b) := by
  by_cases h : a < b
  · rw [if_pos ((nI_ltI ha hb).mpr h), Nat.max_eq_right (Nat.le_of_lt h)]
  · rw [if_neg (fun q => h ((nI_ltI ha hb).mp q)), Nat.max_eq_left (by omega)]
def lkx (p : Nat → Nat) (most : Nat) : Nat → Nat
  | 0 => 0
  | c + 1 => if most < p c then lkx p most c ||| 2 ^ c else lkx p most c
def wyx (m : Nat) (le : Nat → Nat) (w : Nat) : Nat → Nat
  | 0 => 1
  | i + 1 => if bt m i = 1 then wyx m le w i else wyx m le w i * (if bt w i = 1 then le i else 8 - le i)
def mt (m c : Nat) : Nat := Nat.log2 (nd (2 ^ c - 1) m)
def sec (m c : Nat) : Prop := bt m c ≠ 1 ∧ pc (nd (2 ^ c - 1) m) % 2 = 1
def evx (m w : Nat) : Nat → Nat
  | 0 => 1
  | c + 1 => if bt m c ≠ 1 ∧ pc (nd (2 ^ c - 1) m) % 2 = 1 ∧ bt w (mt m c) ≠ bt w c then evx m w c * 2 ^ 1 ||| bt w (mt m c) else evx m w c
def exx (m : Nat) (le : Nat → Nat) : Nat → Nat
  | 0 => 0
  | c + 1 => if bt m c ≠ 1 ∧ pc (nd (2 ^ c - 1) m) % 2 = 1 then exx m le c + (le (mt m c) * (8 - le c) + (8 - le (mt m c)) * le c) else exx m le c
theorem evx_n {m w i : Nat} (h : ¬ (bt m i ≠ 1 ∧ pc (nd (2 ^ i - 1) m) % 2 = 1)) : evx m w i = evx m w (i + 1) := by
  show _ = if bt m i ≠ 1 ∧ pc (nd (2 ^ i - 1) m) % 2 = 1 ∧ bt w (mt m i) ≠ bt w i then _ else _
  rw [if_neg (fun q => h ⟨q.1, q.2.1⟩)]
theorem isW_T {n : Nat} {x : Int32} (hn : n < 31) (h : x >>> (nI n &&& 31) = 0) : isI (2 ^ n) x = true := by
  have h1 := pk_shr x (nI n &&& 31) n (nI_sh n (by omega))
  rw [h, Int.shiftRight_eq_div_pow] at h1
  have hp : (0 : Int) < 2 ^ n := Int.pow_pos (by decide)
  have h2 : x.toInt / 2 ^ n = 0 := by have q : ((2 ^ n : Nat) : Int) = 2 ^ n := by simp
                                      rw [← q, ← h1]; decide
  have h3 := Int.emod_add_mul_ediv x.toInt (2 ^ n)
  rw [h2] at h3
  have h4 := Int.emod_nonneg x.toInt (show (2 : Int) ^ n ≠ 0 by omega)
  have h5 := Int.emod_lt_of_pos x.toInt hp
  simp only [isI, Bool.and_eq_true, decide_eq_true_eq]
  have h6 : ((2 ^ n : Nat) : Int) = 2 ^ n := by simp
  rw [h6]
  omega
theorem isW_F {n : Nat} {x : Int32} (hn : n < 31) (h : ¬ x >>> (nI n &&& 31) = 0) : isI (2 ^ n) x = false := by
  cases hq : isI (2 ^ n) x with
  | false => rfl
  | true =>
    exfalso
    obtain ⟨v, hv, rfl⟩ := isI_T hq
    apply h
    have hv2 : v < 2 ^ 31 := Nat.lt_of_lt_of_le hv (Nat.pow_le_pow_right (by decide) (by omega))
    rw [nI_shr hv2 (by omega), Nat.div_eq_of_lt hv]
    rfl
theorem pow_lt31 {c : Nat} (h : c ≤ 14) : 2 ^ c ≤ 16384 := Nat.pow_le_pow_right (by decide) h
theorem ah_lt {m c : Nat} (h : c ≤ 14) : nd (2 ^ c - 1) m < 16384 := by
  have := nd_le (2 ^ c - 1) m
  have := pow_lt31 h
  have := Nat.one_le_two_pow (n := c)
  omega
theorem ah_pos {m c : Nat} (h : pc (nd (2 ^ c - 1) m) % 2 = 1) : 0 < nd (2 ^ c - 1) m := by
  rcases Nat.eq_zero_or_pos (nd (2 ^ c - 1) m) with q | q
  · rw [q, pc_0] at h; cases h
  · exact q
theorem mt_lt {m c : Nat} (h : pc (nd (2 ^ c - 1) m) % 2 = 1) : mt m c < c := by
  have h1 := ah_pos h
  have h2 := nd_le (2 ^ c - 1) m
  exact log2_lt h1 (by have := Nat.one_le_two_pow (n := c); omega)
theorem lN_shl1 {k : Nat} (h : k < 64) : lN 1 <<< ((nI k).toInt64 &&& 63) = lN (2 ^ k) := by
  have : ∀ k : Fin 64, lN 1 <<< ((nI k.val).toInt64 &&& 63) = lN (2 ^ k.val) := by decide +kernel
  exact this ⟨k, h⟩

set_option maxHeartbeats 4000000 in
set_option maxRecDepth 100000 in
theorem c_X0_leastOf {l : Launch} {D : va_G} {c : Nat → ClassId} {t : Nat} (ht : t < 3) : KI l D (tyE c) w0 yX0_leastOf cX0_leastOf 1 .int (rmL 1) [.int (nI t)] () (fun r u => r = nI (lo2 t) ∧ u = ()) := by
  refine x_enterI (by decide) (Nat.le_of_ble_eq_true rfl) (fun F hl hD hn hRm hC hR => ?_)
  subst hl hD
  change XW F 0 0 (w0 ()) [(0, .int (nI t))] 0 []
  change FC F cX0_leastOf RX0 (tyE c) at hC
  refine x_iload_n hC 0 rfl dX0_leastOf_0 ?_
  refine x_iconst hC (v := (nI 2)) dX0_leastOf_1 rfl ?_
  refine x_icmp_neN hC 9 dX0_leastOf_2 rfl (by omega) (by decide) (fun h2 => ?_) (fun h2 => ?_)
  · -- 2 T
    refine x_iconst hC (v := (nI 0)) dX0_leastOf_9 rfl ?_
    exact x_iret hC hR dX0_leastOf_10 (⟨by simp [lo2, *], rfl⟩)
  · -- 2 F
    refine x_iconst hC (v := (nI 1)) dX0_leastOf_5 rfl ?_
    refine x_goto hC 10 dX0_leastOf_6 rfl ?_
    exact x_iret hC hR dX0_leastOf_10 (⟨by simp [lo2, *], rfl⟩)
set_option maxHeartbeats 4000000 in
set_option maxRecDepth 100000 in
theorem c_X0_greatestOf {l : Launch} {D : va_G} {c : Nat → ClassId} {t : Nat} (ht : t < 3) : KI l D (tyE c) w0 yX0_greatestOf cX0_greatestOf 1 .int (rmL 1) [.int (nI t)] () (fun r u => r = nI (hi2 t) ∧ u = ()) := by
  refine x_enterI (by decide) (Nat.le_of_ble_eq_true rfl) (fun F hl hD hn hRm hC hR => ?_)
  subst hl hD
  change XW F 0 0 (w0 ()) [(0, .int (nI t))] 0 []
  change FC F cX0_greatestOf RX0 (tyE c) at hC
  refine x_iload_n hC 0 rfl dX0_greatestOf_0 ?_
  refine x_iconst hC (v := (nI 2)) dX0_greatestOf_1 rfl ?_
  refine x_icmp_neN hC 10 dX0_greatestOf_2 rfl (by omega) (by decide) (fun h2 => ?_) (fun h2 => ?_)
  · -- 2 T
    refine x_iconst hC (v := (nI 4)) dX0_greatestOf_10 rfl ?_
    exact x_iret hC hR dX0_greatestOf_11 (⟨by simp [hi2, *], rfl⟩)
  · -- 2 F
    refine x_bipush hC (v := (nI 7)) dX0_greatestOf_5 rfl ?_
    refine x_goto hC 11 dX0_greatestOf_7 rfl ?_
    exact x_iret hC hR dX0_greatestOf_11 (⟨by simp [hi2, *], rfl⟩)
set_option maxHeartbeats 4000000 in
set_option maxRecDepth 100000 in
theorem c_X0_expectedOfTwo {l : Launch} {D : va_G} {c : Nat → ClassId} {p q : Nat} (hp : p ≤ 8) (hq : q ≤ 8) : KI l D (tyE c) w0 yX0_expectedOfTwo cX0_expectedOfTwo 2 .int (rmL 1) [.int (nI p), .int (nI q)] () (fun r u => r = nI (p * (8 - q) + (8 - p) * q) ∧ u = ()) := by
  refine x_enterI (by decide) (Nat.le_of_ble_eq_true rfl) (fun F hl hD hn hRm hC hR => ?_)
  subst hl hD
  change XW F 0 0 (w0 ()) [(0, .int (nI p)), (1, .int (nI q))] 0 []
  change FC F cX0_expectedOfTwo RX0 (tyE c) at hC
  refine x_iload_n hC 0 rfl dX0_expectedOfTwo_0 ?_
  refine x_bipush hC (v := (nI 8)) dX0_expectedOfTwo_1 rfl ?_
  refine x_iload_n hC 1 rfl dX0_expectedOfTwo_3 ?_
  refine x_isubE hC (z := (nI (8 - q))) (pk_sub (by omega)) dX0_expectedOfTwo_4 ?_
  refine x_imulE hC (z := (nI (p * (8 - q)))) (pk_mul _ _) dX0_expectedOfTwo_5 ?_
  refine x_bipush hC (v := (nI 8)) dX0_expectedOfTwo_6 rfl ?_
  refine x_iload_n hC 0 rfl dX0_expectedOfTwo_8 ?_
  refine x_isubE hC (z := (nI (8 - p))) (pk_sub (by omega)) dX0_expectedOfTwo_9 ?_
  refine x_iload_n hC 1 rfl dX0_expectedOfTwo_10 ?_
  refine x_imulE hC (z := (nI ((8 - p) * q))) (pk_mul _ _) dX0_expectedOfTwo_11 ?_
  refine x_iaddE hC (z := (nI ((p * (8 - q)) + ((8 - p) * q)))) (nI_add _ _) dX0_expectedOfTwo_12 ?_
  exact x_iret hC hR dX0_expectedOfTwo_13 (⟨rfl, rfl⟩)
set_option maxHeartbeats 4000000 in
set_option maxRecDepth 100000 in
theorem c_X0_open {l : Launch} {D : va_G} {c : Nat → ClassId} {a : Nat → Nat} {μ : Me} {w m : Nat} (hm : μ 0 1 = nI m) : KI l D (tyE c) (xw c a) yX0_open cX0_open 2 .int (rmL 1) [.ref (a 1), .int (nI w)] μ (fun r u => r = nI (nd w m) ∧ μ = u) := by
  refine x_enterI (by decide) (Nat.le_of_ble_eq_true rfl) (fun F hl hD hn hRm hC hR => ?_)
  subst hl hD
  change XW F 0 0 (xw c a μ) [(0, .ref (a 1)), (1, .int (nI w))] 0 []
  change FC F cX0_open RX0 (tyE c) at hC
  refine x_iload_n hC 1 rfl dX0_open_0 ?_
  refine x_aload_n hC 0 rfl dX0_open_1 ?_
  refine x_get hC fl_X0_15 dX0_open_2 1 rfl (v := .int (nI m)) (xv hm) ?_
  refine x_iconst hC (v := (zI (-1))) dX0_open_5 rfl ?_
  refine x_ixorE hC (z := (nI m ^^^ (-1))) (rfl) dX0_open_6 ?_
  refine x_iandE hC (z := (nI (nd w m))) (nI_andc _ _) dX0_open_7 ?_
  exact x_iret hC hR dX0_open_8 (⟨rfl, rfl⟩)
set_option maxHeartbeats 4000000 in
set_option maxRecDepth 100000 in
theorem c_X0_isCell {l : Launch} {D : va_G} {c : Nat → ClassId} {a : Nat → Nat} {μ : Me} {x : Int32} {n : Nat} (hn0 : μ 0 0 = nI n) (hb : n ≤ 14) : KI l D (tyE c) (xw c a) yX0_isCell cX0_isCell 2 .boolean (rmL 1) [.ref (a 1), .int x] μ (fun r u => r = bz (isI n x) ∧ μ = u) := by
  refine x_enterI (by decide) (Nat.le_of_ble_eq_true rfl) (fun F hl hD hn hRm hC hR => ?_)
  subst hl hD
  change XW F 0 0 (xw c a μ) [(0, .ref (a 1)), (1, .int x)] 0 []
  change FC F cX0_isCell RX0 (tyE c) at hC
  refine x_iload_n hC 1 rfl dX0_isCell_0 ?_
  refine x_if_lt hC 16 dX0_isCell_1 rfl (fun h1 => ?_) (fun h1 => ?_)
  · -- 1 T
    refine x_iconst hC (v := (nI 0)) dX0_isCell_16 rfl ?_
    exact x_zret hC hR dX0_isCell_17 rfl (⟨by first | exact isI_f0 h1 | exact isI_f1 (by omega) h9 | exact isI_t1 (by omega) h1 h9, rfl⟩)
  · -- 1 F
    refine x_iload_n hC 1 rfl dX0_isCell_4 ?_
    refine x_aload_n hC 0 rfl dX0_isCell_5 ?_
    refine x_get hC fl_X0_9 dX0_isCell_6 1 rfl (v := .int (nI n)) (xv hn0) ?_
    refine x_icmp_ge hC 16 dX0_isCell_9 rfl (fun h9 => ?_) (fun h9 => ?_)
    · -- 9 T
      refine x_iconst hC (v := (nI 0)) dX0_isCell_16 rfl ?_
      exact x_zret hC hR dX0_isCell_17 rfl (⟨by first | exact isI_f0 h1 | exact isI_f1 (by omega) h9 | exact isI_t1 (by omega) h1 h9, rfl⟩)
    · -- 9 F
      refine x_iconst hC (v := (nI 1)) dX0_isCell_12 rfl ?_
      refine x_goto hC 17 dX0_isCell_13 rfl ?_
      exact x_zret hC hR dX0_isCell_17 rfl (⟨by first | exact isI_f0 h1 | exact isI_f1 (by omega) h9 | exact isI_t1 (by omega) h1 h9, rfl⟩)
set_option maxHeartbeats 4000000 in
set_option maxRecDepth 100000 in
theorem c_X0_isWord {l : Launch} {D : va_G} {c : Nat → ClassId} {a : Nat → Nat} {μ : Me} {x : Int32} {n : Nat} (hn0 : μ 0 0 = nI n) (hb : n ≤ 14) : KI l D (tyE c) (xw c a) yX0_isWord cX0_isWord 2 .boolean (rmL 1) [.ref (a 1), .int x] μ (fun r u => r = bz (isI (2 ^ n) x) ∧ μ = u) := by
  refine x_enterI (by decide) (Nat.le_of_ble_eq_true rfl) (fun F hl hD hn hRm hC hR => ?_)
  subst hl hD
  change XW F 0 0 (xw c a μ) [(0, .ref (a 1)), (1, .int x)] 0 []
  change FC F cX0_isWord RX0 (tyE c) at hC
  refine x_iload_n hC 1 rfl dX0_isWord_0 ?_
  refine x_aload_n hC 0 rfl dX0_isWord_1 ?_
  refine x_get hC fl_X0_9 dX0_isWord_2 1 rfl (v := .int (nI n)) (xv hn0) ?_
  refine x_ishr hC dX0_isWord_5 ?_
  refine x_if_ne hC 13 dX0_isWord_6 rfl (fun h6 => ?_) (fun h6 => ?_)
  · -- 6 T
    refine x_iconst hC (v := (nI 0)) dX0_isWord_13 rfl ?_
    exact x_zret hC hR dX0_isWord_14 rfl (⟨by first | (rw [isW_F (by omega) h6]; rfl) | (rw [isW_T (by omega) h6]; rfl), rfl⟩)
  · -- 6 F
    refine x_iconst hC (v := (nI 1)) dX0_isWord_9 rfl ?_
    refine x_goto hC 14 dX0_isWord_10 rfl ?_
    exact x_zret hC hR dX0_isWord_14 rfl (⟨by first | (rw [isW_F (by omega) h6]; rfl) | (rw [isW_T (by omega) h6]; rfl), rfl⟩)
set_option maxHeartbeats 4000000 in
set_option maxRecDepth 100000 in
theorem c_X0_isMasked {l : Launch} {D : va_G} {c : Nat → ClassId} {a : Nat → Nat} {μ : Me} {i m : Nat} (hm : μ 0 1 = nI m) (hmb : m < 2 ^ 31) (hi : i < 32) : KI l D (tyE c) (xw c a) yX0_isMasked cX0_isMasked 2 .boolean (rmL 1) [.ref (a 1), .int (nI i)] μ (fun r u => r = bz (decide (bt m i = 1)) ∧ μ = u) := by
  refine x_enterI (by decide) (Nat.le_of_ble_eq_true rfl) (fun F hl hD hn hRm hC hR => ?_)
  subst hl hD
  change XW F 0 0 (xw c a μ) [(0, .ref (a 1)), (1, .int (nI i))] 0 []
  change FC F cX0_isMasked RX0 (tyE c) at hC
  refine x_aload_n hC 0 rfl dX0_isMasked_0 ?_
  refine x_get hC fl_X0_15 dX0_isMasked_1 1 rfl (v := .int (nI m)) (xv hm) ?_
  refine x_iload_n hC 1 rfl dX0_isMasked_4 ?_
  refine x_ishrE hC (z := (nI (m / 2 ^ i))) (nI_shr (by omega) (by omega)) dX0_isMasked_5 ?_
  refine x_iconst hC (v := (nI 1)) dX0_isMasked_6 rfl ?_
  refine x_iandE hC (z := (nI (bt m i))) (nI_and1 _) dX0_isMasked_7 ?_
  refine x_iconst hC (v := (nI 1)) dX0_isMasked_8 rfl ?_
  refine x_icmp_neN hC 16 dX0_isMasked_9 rfl (by have := bt_lt m i; omega) (by decide) (fun h9 => ?_) (fun h9 => ?_)
  · -- 9 T
    refine x_iconst hC (v := (nI 0)) dX0_isMasked_16 rfl ?_
    exact x_zret hC hR dX0_isMasked_17 rfl (⟨by simp [h9, bz]; rfl, rfl⟩)
  · -- 9 F
    refine x_iconst hC (v := (nI 1)) dX0_isMasked_12 rfl ?_
    refine x_goto hC 17 dX0_isMasked_13 rfl ?_
    exact x_zret hC hR dX0_isMasked_17 rfl (⟨by simp [h9, bz]; rfl, rfl⟩)
set_option maxHeartbeats 4000000 in
set_option maxRecDepth 100000 in
theorem c_X0_openSet {l : Launch} {D : va_G} {c : Nat → ClassId} {a : Nat → Nat} {μ : Me} {n m : Nat} (hn0 : μ 0 0 = nI n) (hm : μ 0 1 = nI m) (hb : n ≤ 14) : KI l D (tyE c) (xw c a) yX0_openSet cX0_openSet 1 .int (rmL 2) [.ref (a 1)] μ (fun r u => r = nI (nd (2 ^ n - 1) m) ∧ μ = u) := by
  refine x_enterI (by decide) (Nat.le_of_ble_eq_true rfl) (fun F hl hD hn hRm hC hR => ?_)
  subst hl hD
  change XW F 0 0 (xw c a μ) [(0, .ref (a 1))] 0 []
  change FC F cX0_openSet RX0 (tyE c) at hC
  refine x_aload_n hC 0 rfl dX0_openSet_0 ?_
  refine x_iconst hC (v := (nI 1)) dX0_openSet_1 rfl ?_
  refine x_aload_n hC 0 rfl dX0_openSet_2 ?_
  refine x_get hC fl_X0_9 dX0_openSet_3 1 rfl (v := .int (nI n)) (xv hn0) ?_
  refine x_ishlE hC (z := (nI (2 ^ n))) (nI_shl1 (by omega)) dX0_openSet_6 ?_
  refine x_iconst hC (v := (nI 1)) dX0_openSet_7 rfl ?_
  refine x_isubE hC (z := (nI ((2 ^ n) - 1))) (pk_sub (Nat.one_le_two_pow)) dX0_openSet_8 ?_
  refine x_callVI hC cw_X0_23 (c_X0_open (w := ((2 ^ n) - 1)) (m := m) (by first | assumption | omega)) dX0_openSet_9 [] rfl (Nat.le_of_ble_eq_true rfl) rfl (rm_ok hRm (by decide) (by decide)) 0 1 rfl rfl (fun r9 m9 hp9 => ?_)
  obtain ⟨rfl, rfl⟩ := hp9
  exact x_iret hC hR dX0_openSet_12 (⟨rfl, rfl⟩)
set_option maxHeartbeats 4000000 in
set_option maxRecDepth 100000 in
theorem c_X0_openCells {l : Launch} {D : va_G} {c : Nat → ClassId} {a : Nat → Nat} {μ : Me} {n m : Nat} (hn0 : μ 0 0 = nI n) (hm : μ 0 1 = nI m) (hb : n ≤ 14) : KI l D (tyE c) (xw c a) yX0_openCells cX0_openCells 1 .int (rmL 3) [.ref (a 1)] μ (fun r u => r = nI (pc (nd (2 ^ n - 1) m)) ∧ μ = u) := by
  refine x_enterI (by decide) (Nat.le_of_ble_eq_true rfl) (fun F hl hD hn hRm hC hR => ?_)
  subst hl hD
  change XW F 0 0 (xw c a μ) [(0, .ref (a 1))] 0 []
  change FC F cX0_openCells RX0 (tyE c) at hC
  refine x_aload_n hC 0 rfl dX0_openCells_0 ?_
  refine x_callVI hC cw_X0_27 (c_X0_openSet  (n := n) (m := m) (by first | assumption | omega) (by first | assumption | omega) (by first | assumption | omega)) dX0_openCells_1 [] rfl (Nat.le_of_ble_eq_true rfl) rfl (rm_ok hRm (by decide) (by decide)) 0 1 rfl rfl (fun r1 m1 hp1 => ?_)
  obtain ⟨rfl, rfl⟩ := hp1
  refine x_callN hC cs_X0_31 (c_J6_bitCount_0f7a4 (w := (nd (2 ^ n - 1) m))  (ah_lt hb)) dX0_openCells_4 [] rfl (Nat.le_of_ble_eq_true rfl) rfl (rm_ok hRm (by decide) (by decide)) ?_
  exact x_iret hC hR dX0_openCells_7 (⟨rfl, rfl⟩)
set_option maxHeartbeats 4000000 in
set_option maxRecDepth 100000 in
theorem c_X0_allWays {l : Launch} {D : va_G} {c : Nat → ClassId} {a : Nat → Nat} {μ : Me} {n m : Nat} (hn0 : μ 0 0 = nI n) (hm : μ 0 1 = nI m) (hb : n ≤ 14) : KL l D (tyE c) (xw c a) yX0_allWays cX0_allWays 1 (rmL 4) [.ref (a 1)] μ (fun r u => r = lN (2 ^ (3 * pc (nd (2 ^ n - 1) m))) ∧ μ = u) := by
  refine x_enterL (by decide) (Nat.le_of_ble_eq_true rfl) (fun F hl hD hn hRm hC hR => ?_)
  subst hl hD
  change XW F 0 0 (xw c a μ) [(0, .ref (a 1))] 0 []
  change FC F cX0_allWays RX0 (tyE c) at hC
  refine x_lconst hC (v := lN 1) dX0_allWays_0 rfl ?_
  refine x_iconst hC (v := (nI 3)) dX0_allWays_1 rfl ?_
  refine x_aload_n hC 0 rfl dX0_allWays_2 ?_
  refine x_callVI hC cw_X0_36 (c_X0_openCells  (n := n) (m := m) (by first | assumption | omega) (by first | assumption | omega) (by first | assumption | omega)) dX0_allWays_3 [.int (nI 3), .long (lN 1)] rfl (Nat.le_of_ble_eq_true rfl) rfl (rm_ok hRm (by decide) (by decide)) 0 1 rfl rfl (fun r3 m3 hp3 => ?_)
  obtain ⟨rfl, rfl⟩ := hp3
  refine x_imulE hC (z := (nI (3 * (pc (nd (2 ^ n - 1) m))))) (pk_mul _ _) dX0_allWays_6 ?_
  refine x_lshl hC (v := (lN (2 ^ (3 * pc (nd (2 ^ n - 1) m))))) (lN_shl1 (by have := pc_le (nd (2 ^ n - 1) m); omega)) dX0_allWays_7 ?_
  exact x_lret hC hR dX0_allWays_8 (⟨rfl, rfl⟩)
set_option maxHeartbeats 4000000 in
set_option maxRecDepth 100000 in
theorem c_X0_agedChance {l : Launch} {D : va_G} {c : Nat → ClassId} {a : Nat → Nat} {μ : Me} {i age p q : Nat} (h8 : μ 8 i = nI p) (h9 : μ 9 i = nI q) (hi : i < 14) (hp : p ≤ 4) (hq : q ≤ 4) (ha : age ≤ 40) : KI l D (tyE c) (xw c a) yX0_agedChance cX0_agedChance 3 .int (rmL 2) [.ref (a 1), .int (nI i), .int (nI age)] μ (fun r u => r = nI (ag p q age) ∧ μ = u) := by
  refine x_enterI (by decide) (Nat.le_of_ble_eq_true rfl) (fun F hl hD hn hRm hC hR => ?_)
  subst hl hD
  change XW F 0 0 (xw c a μ) [(0, .ref (a 1)), (1, .int (nI i)), (2, .int (nI age))] 0 []
  change FC F cX0_agedChance RX0 (tyE c) at hC
  refine x_iconst hC (v := (nI 4)) dX0_agedChance_0 rfl ?_
  refine x_aload_n hC 0 rfl dX0_agedChance_1 ?_
  refine x_get hC fl_X0_20 dX0_agedChance_2 1 rfl rfl ?_
  refine x_iconst hC (v := (nI 0)) dX0_agedChance_5 rfl ?_
  refine x_aald hC 7 3 rfl rfl (y := a 8) (by decide) (by decide) (by rfl) dX0_agedChance_6 ?_
  refine x_iload_n hC 1 rfl dX0_agedChance_7 ?_
  refine x_iald hC 8 0 rfl rfl (y := (nI p)) (by omega) (by decide) (h8) dX0_agedChance_8 ?_
  refine x_aload_n hC 0 rfl dX0_agedChance_9 ?_
  refine x_get hC fl_X0_20 dX0_agedChance_10 1 rfl rfl ?_
  refine x_iconst hC (v := (nI 1)) dX0_agedChance_13 rfl ?_
  refine x_aald hC 7 3 rfl rfl (y := a 9) (by decide) (by decide) (by rfl) dX0_agedChance_14 ?_
  refine x_iload_n hC 1 rfl dX0_agedChance_15 ?_
  refine x_iald hC 9 0 rfl rfl (y := (nI q)) (by omega) (by decide) (h9) dX0_agedChance_16 ?_
  refine x_iload_n hC 2 rfl dX0_agedChance_17 ?_
  have hqa : q * age ≤ 4 * 40 := Nat.mul_le_mul hq ha
  refine x_imulE hC (z := (nI (q * age))) (pk_mul _ _) dX0_agedChance_18 ?_
  refine x_bipush hC (v := (nI 10)) dX0_agedChance_19 rfl ?_
  refine x_idivE hC (z := (nI ((q * age) / 10))) (by decide) (pk_div (by omega) (by decide) (by decide)) dX0_agedChance_21 ?_
  refine x_iaddE hC (z := (nI (p + ((q * age) / 10)))) (nI_add _ _) dX0_agedChance_22 ?_
  refine x_min hC cm_X0_39 dX0_agedChance_23 (v := (nI (ag p q age))) (nI_min (by decide) (by omega)) (by rw [hRm]; decide) (by rw [hRm]; exact Nat.le_of_ble_eq_true rfl) (by rw [hRm]; decide) (by rw [hRm]; decide) ?_
  exact x_iret hC hR dX0_agedChance_26 (⟨rfl, rfl⟩)
set_option maxHeartbeats 4000000 in
set_option maxRecDepth 100000 in
theorem c_X0_likelierThan {l : Launch} {D : va_G} {c : Nat → ClassId} {a : Nat → Nat} {μ : Me} {most age n : Nat} {ch we : Nat → Nat} (hn0 : μ 0 0 = nI n) (hb : n ≤ 14) (h8 : ∀ j, j < 14 → μ 8 j = nI (ch j)) (h9 : ∀ j, j < 14 → μ 9 j = nI (we j)) (hcb : ∀ j, j < 14 → ch j ≤ 4 ∧ we j ≤ 4) (ha : age ≤ 40) (hm : most < 2 ^ 31) : KI l D (tyE c) (xw c a) yX0_likelierThan cX0_likelierThan 5 .int (rmL 3) [.ref (a 1), .int (nI most), .int (nI age)] μ (fun r u => r = nI (lkx (fun j => ag (ch j) (we j) age) most n) ∧ μ = u) := by
  refine x_enterI (by decide) (Nat.le_of_ble_eq_true rfl) (fun F hl hD hn hRm hC hR => ?_)
  subst hl hD
  change XW F 0 0 (xw c a μ) [(0, .ref (a 1)), (1, .int (nI most)), (2, .int (nI age))] 0 []
  change FC F cX0_likelierThan RX0 (tyE c) at hC
  refine x_iconst hC (v := (nI 0)) dX0_likelierThan_0 rfl ?_
  refine x_istore_n hC [(3, .int (nI 0)), (0, .ref (a 1)), (1, .int (nI most)), (2, .int (nI age))] rfl (lt_n hn rfl) dX0_likelierThan_1 ?_
  refine x_iconst hC (v := (nI 0)) dX0_likelierThan_2 rfl ?_
  refine x_istore hC [(4, .int (nI 0)), (3, .int (nI 0)), (0, .ref (a 1)), (1, .int (nI most)), (2, .int (nI age))] rfl (lt_n hn rfl) dX0_likelierThan_3 ?_
  refine x_lv [2, 3, 4, 1, 0] rfl ?_
  have L5 : ∀ (N5 : Nat) (s : Nat) (i : Nat), n - i < N5 → (s = lkx (fun j => ag (ch j) (we j) age) most i) → (i ≤ n) → XW F 0 0 (xw c a μ) [(0, .ref (a 1)), (1, .int (nI most)), (2, .int (nI age)), (3, .int (nI s)), (4, .int (nI i))] 5 [] := by
    intro N5
    induction N5 with
    | zero => intro s i hN5 hs hi; exact absurd hN5 (by omega)
    | succ N5 ih5 =>
      intro s i hN5 hs hi
      refine x_iload hC 4 rfl dX0_likelierThan_5 ?_
      refine x_aload_n hC 0 rfl dX0_likelierThan_7 ?_
      refine x_get hC fl_X0_9 dX0_likelierThan_8 1 rfl (v := .int (nI n)) (xv hn0) ?_
      refine x_icmp_geN hC 38 dX0_likelierThan_11 rfl (by omega) (by omega) (fun h11 => ?_) (fun h11 => ?_)
      · -- 11 T
        refine x_iload_n hC 3 rfl dX0_likelierThan_38 ?_
        exact x_iret hC hR dX0_likelierThan_39 (⟨by rw [hs, show i = n by omega], rfl⟩)
      · -- 11 F
        refine x_aload_n hC 0 rfl dX0_likelierThan_14 ?_
        refine x_iload hC 4 rfl dX0_likelierThan_15 ?_
        refine x_iload_n hC 2 rfl dX0_likelierThan_17 ?_
        refine x_callVI hC cw_X0_45 (c_X0_agedChance (i := i) (age := age) (p := (ch i)) (q := (we i)) (h8 i (by omega)) (h9 i (by omega)) (by omega) (hcb i (by omega)).1 (hcb i (by omega)).2 ha) dX0_likelierThan_18 [] rfl (Nat.le_of_ble_eq_true rfl) rfl (rm_ok hRm (by decide) (by decide)) 0 1 rfl rfl (fun r18 m18 hp18 => ?_)
        obtain ⟨rfl, rfl⟩ := hp18
        refine x_iload_n hC 1 rfl dX0_likelierThan_21 ?_
        refine x_icmp_leN hC 32 dX0_likelierThan_22 rfl (by unfold ag; omega) hm (fun h22 => ?_) (fun h22 => ?_)
        · -- 22 T
          refine x_iinc hC (z := 1) (v := (nI (i + 1))) 4 rfl (nI_add i 1) [(4, .int (nI (i + 1))), (0, .ref (a 1)), (1, .int (nI most)), (2, .int (nI age)), (3, .int (nI s))] rfl (lt_n hn rfl) dX0_likelierThan_32 ?_
          refine x_goto hC 5 dX0_likelierThan_35 rfl ?_
          refine x_lv [1, 2, 3, 4, 0] rfl ?_
          exact ih5 s (i + 1) (by omega) (by rw [hs]; first | exact (if_pos h22).symm | exact (if_neg (Nat.not_lt.mpr h22)).symm) (by omega)
        · -- 22 F
          refine x_iload_n hC 3 rfl dX0_likelierThan_25 ?_
          refine x_iconst hC (v := (nI 1)) dX0_likelierThan_26 rfl ?_
          refine x_iload hC 4 rfl dX0_likelierThan_27 ?_
          refine x_ishlE hC (z := (nI (2 ^ i))) (nI_shl1 (by omega)) dX0_likelierThan_29 ?_
          refine x_iorE hC (z := (nI (s ||| (2 ^ i)))) (nI_or _ _) dX0_likelierThan_30 ?_
          refine x_istore_n hC [(3, .int (nI (s ||| (2 ^ i)))), (0, .ref (a 1)), (1, .int (nI most)), (2, .int (nI age)), (4, .int (nI i))] rfl (lt_n hn rfl) dX0_likelierThan_31 ?_
          refine x_iinc hC (z := 1) (v := (nI (i + 1))) 4 rfl (nI_add i 1) [(4, .int (nI (i + 1))), (3, .int (nI (s ||| (2 ^ i)))), (0, .ref (a 1)), (1, .int (nI most)), (2, .int (nI age))] rfl (lt_n hn rfl) dX0_likelierThan_32 ?_
          refine x_goto hC 5 dX0_likelierThan_35 rfl ?_
          refine x_lv [2, 3, 4, 1, 0] rfl ?_
          exact ih5 (s ||| (2 ^ i)) (i + 1) (by omega) (by rw [hs]; first | exact (if_pos h22).symm | exact (if_neg (Nat.not_lt.mpr h22)).symm) (by omega)
  exact L5 _ 0 0 (Nat.lt_succ_self _) rfl (by omega)
set_option maxHeartbeats 4000000 in
set_option maxRecDepth 100000 in
theorem c_X0_waysToBe {l : Launch} {D : va_G} {c : Nat → ClassId} {a : Nat → Nat} {μ : Me} {w n m : Nat} {le : Nat → Nat} (hn0 : μ 0 0 = nI n) (hm : μ 0 1 = nI m) (hb : n ≤ 14) (hmb : m < 2 ^ 31) (h10 : ∀ j, j < 14 → μ 10 j = nI (le j)) (hl : ∀ j, j < 14 → le j ≤ 8) (hw : w < 2 ^ 31) : KL l D (tyE c) (xw c a) yX0_waysToBe cX0_waysToBe 6 (rmL 2) [.ref (a 1), .int (nI w)] μ (fun r u => r = lN (wyx m le w n) ∧ μ = u) := by
  refine x_enterL (by decide) (Nat.le_of_ble_eq_true rfl) (fun F hl hD hn hRm hC hR => ?_)
  subst hl hD
  change XW F 0 0 (xw c a μ) [(0, .ref (a 1)), (1, .int (nI w))] 0 []
  change FC F cX0_waysToBe RX0 (tyE c) at hC
  refine x_lconst hC (v := lN 1) dX0_waysToBe_0 rfl ?_
  refine x_lstore_n hC [(2, .long (lN 1)), (0, .ref (a 1)), (1, .int (nI w))] rfl (lt_n hn rfl) dX0_waysToBe_1 ?_
  refine x_iconst hC (v := (nI 0)) dX0_waysToBe_2 rfl ?_
  refine x_istore hC [(4, .int (nI 0)), (2, .long (lN 1)), (0, .ref (a 1)), (1, .int (nI w))] rfl (lt_n hn rfl) dX0_waysToBe_3 ?_
  refine x_lv [2, 3, 1, 0] rfl ?_
  have L5 : ∀ (N5 : Nat) (s : Nat) (i : Nat), n - i < N5 → (s = wyx m le w i) → (i ≤ n) → XW F 0 0 (xw c a μ) [(0, .ref (a 1)), (1, .int (nI w)), (2, .long (lN s)), (4, .int (nI i))] 5 [] := by
    intro N5
    induction N5 with
    | zero => intro s i hN5 hs hi; exact absurd hN5 (by omega)
    | succ N5 ih5 =>
      intro s i hN5 hs hi
      refine x_iload hC 3 rfl dX0_waysToBe_5 ?_
      refine x_aload_n hC 0 rfl dX0_waysToBe_7 ?_
      refine x_get hC fl_X0_9 dX0_waysToBe_8 1 rfl (v := .int (nI n)) (xv hn0) ?_
      refine x_icmp_geN hC 65 dX0_waysToBe_11 rfl (by omega) (by omega) (fun h11 => ?_) (fun h11 => ?_)
      · -- 11 T
        refine x_lload_n hC 2 rfl dX0_waysToBe_65 ?_
        exact x_lret hC hR dX0_waysToBe_66 (⟨by rw [hs, show i = n by omega], rfl⟩)
      · -- 11 F
        refine x_aload_n hC 0 rfl dX0_waysToBe_14 ?_
        refine x_iload hC 3 rfl dX0_waysToBe_15 ?_
        refine x_callVI hC cw_X0_48 (c_X0_isMasked (i := i) (m := m) (by first | assumption | omega) (by first | assumption | omega) (by first | assumption | omega)) dX0_waysToBe_17 [] rfl (Nat.le_of_ble_eq_true rfl) rfl (rm_ok hRm (by decide) (by decide)) 0 1 rfl rfl (fun r17 m17 hp17 => ?_)
        obtain ⟨rfl, rfl⟩ := hp17
        refine x_if_neB hC 59 dX0_waysToBe_20 rfl (fun h20 => ?_) (fun h20 => ?_)
        · -- 20 T
          refine x_iinc hC (z := 1) (v := (nI (i + 1))) 3 rfl (nI_add i 1) [(4, .int (nI (i + 1))), (0, .ref (a 1)), (1, .int (nI w)), (2, .long (lN s))] rfl (lt_n hn rfl) dX0_waysToBe_59 ?_
          refine x_goto hC 5 dX0_waysToBe_62 rfl ?_
          refine x_lv [1, 2, 3, 0] rfl ?_
          exact ih5 s (i + 1) (by omega) (by rw [hs]; simp_all [wyx]) (by omega)
        · -- 20 F
          refine x_aload_n hC 0 rfl dX0_waysToBe_23 ?_
          refine x_get hC fl_X0_20 dX0_waysToBe_24 1 rfl rfl ?_
          refine x_iconst hC (v := (nI 2)) dX0_waysToBe_27 rfl ?_
          refine x_aald hC 7 3 rfl rfl (y := a 10) (by decide) (by decide) (by rfl) dX0_waysToBe_28 ?_
          refine x_iload hC 3 rfl dX0_waysToBe_29 ?_
          refine x_iald hC 10 0 rfl rfl (y := (nI (le i))) (by omega) (by decide) (h10 i (by omega)) dX0_waysToBe_31 ?_
          refine x_istore hC [(5, .int (nI (le i))), (0, .ref (a 1)), (1, .int (nI w)), (2, .long (lN s)), (4, .int (nI i))] rfl (lt_n hn rfl) dX0_waysToBe_32 ?_
          have hli := hl i (by omega)
          refine x_lload_n hC 3 rfl dX0_waysToBe_34 ?_
          refine x_iload_n hC 2 rfl dX0_waysToBe_35 ?_
          refine x_iload hC 4 rfl dX0_waysToBe_36 ?_
          refine x_ishrE hC (z := (nI (w / 2 ^ i))) (nI_shr (by omega) (by omega)) dX0_waysToBe_38 ?_
          refine x_iconst hC (v := (nI 1)) dX0_waysToBe_39 rfl ?_
          refine x_iandE hC (z := (nI (bt w i))) (nI_and1 _) dX0_waysToBe_40 ?_
          refine x_iconst hC (v := (nI 1)) dX0_waysToBe_41 rfl ?_
          refine x_icmp_neN hC 51 dX0_waysToBe_42 rfl (by have := bt_lt w i; omega) (by decide) (fun h42 => ?_) (fun h42 => ?_)
          · -- 42 T
            refine x_bipush hC (v := (nI 8)) dX0_waysToBe_51 rfl ?_
            refine x_iload hC 0 rfl dX0_waysToBe_53 ?_
            refine x_isubE hC (z := (nI (8 - (le i)))) (pk_sub (by omega)) dX0_waysToBe_55 ?_
            refine x_i2l hC (v := (lN (8 - (le i)))) (nI_l (by omega)) dX0_waysToBe_56 ?_
            refine x_lmulE hC (z := (lN (s * (8 - (le i))))) (lN_mul _ _) dX0_waysToBe_57 ?_
            refine x_lstore_n hC [(2, .long (lN (s * (8 - (le i))))), (5, .int (nI (le i))), (0, .ref (a 1)), (1, .int (nI w)), (4, .int (nI i))] rfl (lt_n hn rfl) dX0_waysToBe_58 ?_
            refine x_iinc hC (z := 1) (v := (nI (i + 1))) 4 rfl (nI_add i 1) [(4, .int (nI (i + 1))), (2, .long (lN (s * (8 - (le i))))), (5, .int (nI (le i))), (0, .ref (a 1)), (1, .int (nI w))] rfl (lt_n hn rfl) dX0_waysToBe_59 ?_
            refine x_goto hC 5 dX0_waysToBe_62 rfl ?_
            refine x_lv [3, 4, 1, 0] rfl ?_
            exact ih5 (s * (8 - (le i))) (i + 1) (by omega) (by rw [hs]; simp_all [wyx]) (by omega)
          · -- 42 F
            refine x_iload hC 0 rfl dX0_waysToBe_45 ?_
            refine x_i2l hC (v := (lN (le i))) (nI_l (by omega)) dX0_waysToBe_47 ?_
            refine x_goto hC 57 dX0_waysToBe_48 rfl ?_
            refine x_lmulE hC (z := (lN (s * (le i)))) (lN_mul _ _) dX0_waysToBe_57 ?_
            refine x_lstore_n hC [(2, .long (lN (s * (le i)))), (5, .int (nI (le i))), (0, .ref (a 1)), (1, .int (nI w)), (4, .int (nI i))] rfl (lt_n hn rfl) dX0_waysToBe_58 ?_
            refine x_iinc hC (z := 1) (v := (nI (i + 1))) 4 rfl (nI_add i 1) [(4, .int (nI (i + 1))), (2, .long (lN (s * (le i)))), (5, .int (nI (le i))), (0, .ref (a 1)), (1, .int (nI w))] rfl (lt_n hn rfl) dX0_waysToBe_59 ?_
            refine x_goto hC 5 dX0_waysToBe_62 rfl ?_
            refine x_lv [3, 4, 1, 0] rfl ?_
            exact ih5 (s * (le i)) (i + 1) (by omega) (by rw [hs]; simp_all [wyx]) (by omega)
  exact L5 _ 1 0 (Nat.lt_succ_self _) rfl (by omega)
set_option maxHeartbeats 4000000 in
set_option maxRecDepth 100000 in
theorem c_X0_mateOf {l : Launch} {D : va_G} {c : Nat → ClassId} {a : Nat → Nat} {μ : Me} {i m : Nat} (hm : μ 0 1 = nI m) (hmb : m < 2 ^ 31) (hi : i ≤ 14) : KI l D (tyE c) (xw c a) yX0_mateOf cX0_mateOf 4 .int (rmL 2) [.ref (a 1), .int (nI i)] μ (fun r u => ((bt m i ≠ 1 ∧ pc (nd (2 ^ i - 1) m) % 2 = 1 ∧ r = nI (mt m i)) ∨ (¬ (bt m i ≠ 1 ∧ pc (nd (2 ^ i - 1) m) % 2 = 1) ∧ r = zI (-1))) ∧ μ = u) := by
  refine x_enterI (by decide) (Nat.le_of_ble_eq_true rfl) (fun F hl hD hn hRm hC hR => ?_)
  subst hl hD
  change XW F 0 0 (xw c a μ) [(0, .ref (a 1)), (1, .int (nI i))] 0 []
  change FC F cX0_mateOf RX0 (tyE c) at hC
  refine x_aload_n hC 0 rfl dX0_mateOf_0 ?_
  refine x_iconst hC (v := (nI 1)) dX0_mateOf_1 rfl ?_
  refine x_iload_n hC 1 rfl dX0_mateOf_2 ?_
  refine x_ishlE hC (z := (nI (2 ^ i))) (nI_shl1 (by omega)) dX0_mateOf_3 ?_
  refine x_iconst hC (v := (nI 1)) dX0_mateOf_4 rfl ?_
  refine x_isubE hC (z := (nI ((2 ^ i) - 1))) (pk_sub (Nat.one_le_two_pow)) dX0_mateOf_5 ?_
  refine x_callVI hC cw_X0_23 (c_X0_open (w := ((2 ^ i) - 1)) (m := m) (by first | assumption | omega)) dX0_mateOf_6 [] rfl (Nat.le_of_ble_eq_true rfl) rfl (rm_ok hRm (by decide) (by decide)) 0 1 rfl rfl (fun r6 m6 hp6 => ?_)
  obtain ⟨rfl, rfl⟩ := hp6
  refine x_istore_n hC [(2, .int (nI (nd ((2 ^ i) - 1) m))), (0, .ref (a 1)), (1, .int (nI i))] rfl (lt_n hn rfl) dX0_mateOf_9 ?_
  refine x_aload_n hC 1 rfl dX0_mateOf_10 ?_
  refine x_iload_n hC 2 rfl dX0_mateOf_11 ?_
  refine x_callVI hC cw_X0_48 (c_X0_isMasked (i := i) (m := m) (by first | assumption | omega) (by first | assumption | omega) (by first | assumption | omega)) dX0_mateOf_12 [] rfl (Nat.le_of_ble_eq_true rfl) rfl (rm_ok hRm (by decide) (by decide)) 0 1 rfl rfl (fun r12 m12 hp12 => ?_)
  obtain ⟨rfl, rfl⟩ := hp12
  refine x_if_neB hC 32 dX0_mateOf_15 rfl (fun h15 => ?_) (fun h15 => ?_)
  · -- 15 T
    replace h15 := of_decide_eq_true h15
    refine x_iconst hC (v := (nI 0)) dX0_mateOf_32 rfl ?_
    refine x_istore_n hC [(3, .int (nI 0)), (2, .int (nI (nd ((2 ^ i) - 1) m))), (0, .ref (a 1)), (1, .int (nI i))] rfl (lt_n hn rfl) dX0_mateOf_33 ?_
    refine x_iload_n hC 0 rfl dX0_mateOf_34 ?_
    refine x_if_eq_T hC 48 dX0_mateOf_35 rfl (by decide) ?_
    refine x_iconst hC (v := (zI (-1))) dX0_mateOf_48 rfl ?_
    exact x_iret hC hR dX0_mateOf_49 (⟨by first | exact Or.inl ⟨h15, h25, rfl⟩ | exact Or.inr ⟨fun q => q.1 h15, rfl⟩ | exact Or.inr ⟨fun q => h25 q.2, rfl⟩, rfl⟩)
  · -- 15 F
    replace h15 := of_decide_eq_false h15
    refine x_iload_n hC 0 rfl dX0_mateOf_18 ?_
    refine x_callN hC cs_X0_31 (c_J6_bitCount_0f7a4 (w := (nd ((2 ^ i) - 1) m))  (ah_lt hi)) dX0_mateOf_19 [] rfl (Nat.le_of_ble_eq_true rfl) rfl (rm_ok hRm (by decide) (by decide)) ?_
    refine x_iconst hC (v := (nI 2)) dX0_mateOf_22 rfl ?_
    refine x_iremE hC (z := (nI ((pc (nd ((2 ^ i) - 1) m)) % 2))) (by decide) (pk_rem (by have := pc_le (nd (2 ^ i - 1) m); omega) (by decide) (by decide)) dX0_mateOf_23 ?_
    refine x_iconst hC (v := (nI 1)) dX0_mateOf_24 rfl ?_
    refine x_icmp_neN hC 32 dX0_mateOf_25 rfl (by omega) (by decide) (fun h25 => ?_) (fun h25 => ?_)
    · -- 25 T
      refine x_iconst hC (v := (nI 0)) dX0_mateOf_32 rfl ?_
      refine x_istore_n hC [(3, .int (nI 0)), (2, .int (nI (nd ((2 ^ i) - 1) m))), (0, .ref (a 1)), (1, .int (nI i))] rfl (lt_n hn rfl) dX0_mateOf_33 ?_
      refine x_iload_n hC 0 rfl dX0_mateOf_34 ?_
      refine x_if_eq_T hC 48 dX0_mateOf_35 rfl (by decide) ?_
      refine x_iconst hC (v := (zI (-1))) dX0_mateOf_48 rfl ?_
      exact x_iret hC hR dX0_mateOf_49 (⟨by first | exact Or.inl ⟨h15, h25, rfl⟩ | exact Or.inr ⟨fun q => q.1 h15, rfl⟩ | exact Or.inr ⟨fun q => h25 q.2, rfl⟩, rfl⟩)
    · -- 25 F
      refine x_iconst hC (v := (nI 1)) dX0_mateOf_28 rfl ?_
      refine x_goto hC 33 dX0_mateOf_29 rfl ?_
      refine x_istore_n hC [(3, .int (nI 1)), (2, .int (nI (nd ((2 ^ i) - 1) m))), (0, .ref (a 1)), (1, .int (nI i))] rfl (lt_n hn rfl) dX0_mateOf_33 ?_
      refine x_iload_n hC 0 rfl dX0_mateOf_34 ?_
      refine x_if_eq_F hC 48 dX0_mateOf_35 rfl (by decide) ?_
      refine x_bipush hC (v := (nI 31)) dX0_mateOf_38 rfl ?_
      refine x_iload_n hC 1 rfl dX0_mateOf_40 ?_
      refine x_callN hC cs_X0_58 (c_J6_numberOfLeadingZeros_0f7a4 (v := (nd ((2 ^ i) - 1) m))  (ah_pos h25) (ah_lt hi)) dX0_mateOf_41 [.int (nI 31)] rfl (Nat.le_of_ble_eq_true rfl) rfl (rm_ok hRm (by decide) (by decide)) ?_
      refine x_isubE hC (z := (nI (mt m i))) ((pk_sub (by omega)).trans (congrArg nI (show 31 - (31 - Nat.log2 (nd (2 ^ i - 1) m)) = mt m i by have := mt_lt h25; unfold mt at this ⊢; omega))) dX0_mateOf_44 ?_
      refine x_goto hC 49 dX0_mateOf_45 rfl ?_
      exact x_iret hC hR dX0_mateOf_49 (⟨by first | exact Or.inl ⟨h15, h25, rfl⟩ | exact Or.inr ⟨fun q => q.1 h15, rfl⟩ | exact Or.inr ⟨fun q => h25 q.2, rfl⟩, rfl⟩)
set_option maxHeartbeats 4000000 in
set_option maxRecDepth 100000 in
theorem c_X0_evenBitsLedByOne {l : Launch} {D : va_G} {c : Nat → ClassId} {a : Nat → Nat} {μ : Me} {w n m : Nat} (hn0 : μ 0 0 = nI n) (hm : μ 0 1 = nI m) (hmb : m < 2 ^ 31) (hb : n ≤ 14) (hw : w < 2 ^ 31) : KI l D (tyE c) (xw c a) yX0_evenBitsLedByOne cX0_evenBitsLedByOne 5 .int (rmL 3) [.ref (a 1), .int (nI w)] μ (fun r u => r = nI (evx m w n) ∧ μ = u) := by
  refine x_enterI (by decide) (Nat.le_of_ble_eq_true rfl) (fun F hl hD hn hRm hC hR => ?_)
  subst hl hD
  change XW F 0 0 (xw c a μ) [(0, .ref (a 1)), (1, .int (nI w))] 0 []
  change FC F cX0_evenBitsLedByOne RX0 (tyE c) at hC
  refine x_iconst hC (v := (nI 1)) dX0_evenBitsLedByOne_0 rfl ?_
  refine x_istore_n hC [(2, .int (nI 1)), (0, .ref (a 1)), (1, .int (nI w))] rfl (lt_n hn rfl) dX0_evenBitsLedByOne_1 ?_
  refine x_iconst hC (v := (nI 0)) dX0_evenBitsLedByOne_2 rfl ?_
  refine x_istore_n hC [(3, .int (nI 0)), (2, .int (nI 1)), (0, .ref (a 1)), (1, .int (nI w))] rfl (lt_n hn rfl) dX0_evenBitsLedByOne_3 ?_
  refine x_lv [2, 3, 1, 0] rfl ?_
  have L4 : ∀ (N4 : Nat) (s : Nat) (i : Nat), n - i < N4 → (s = evx m w i) → (i ≤ n) → XW F 0 0 (xw c a μ) [(0, .ref (a 1)), (1, .int (nI w)), (2, .int (nI s)), (3, .int (nI i))] 4 [] := by
    intro N4
    induction N4 with
    | zero => intro s i hN4 hs hi; exact absurd hN4 (by omega)
    | succ N4 ih4 =>
      intro s i hN4 hs hi
      refine x_iload_n hC 3 rfl dX0_evenBitsLedByOne_4 ?_
      refine x_aload_n hC 0 rfl dX0_evenBitsLedByOne_5 ?_
      refine x_get hC fl_X0_9 dX0_evenBitsLedByOne_6 1 rfl (v := .int (nI n)) (xv hn0) ?_
      refine x_icmp_geN hC 55 dX0_evenBitsLedByOne_9 rfl (by omega) (by omega) (fun h9 => ?_) (fun h9 => ?_)
      · -- 9 T
        refine x_iload_n hC 2 rfl dX0_evenBitsLedByOne_55 ?_
        exact x_iret hC hR dX0_evenBitsLedByOne_56 (⟨by rw [hs, show i = n by omega], rfl⟩)
      · -- 9 F
        refine x_aload_n hC 0 rfl dX0_evenBitsLedByOne_12 ?_
        refine x_iload_n hC 3 rfl dX0_evenBitsLedByOne_13 ?_
        refine x_callVI hC cw_X0_52 (c_X0_mateOf (i := i) (m := m) (by first | assumption | omega) (by first | assumption | omega) (by first | assumption | omega)) dX0_evenBitsLedByOne_14 [] rfl (Nat.le_of_ble_eq_true rfl) rfl (rm_ok hRm (by decide) (by decide)) 0 1 rfl rfl (fun r14 m14 hp14 => ?_)
        obtain ⟨hqhp14, rfl⟩ := hp14
        rcases hqhp14 with ⟨hma, hmb2, rfl⟩ | ⟨hma, rfl⟩
        · skip
          refine x_istore hC [(4, .int (nI (mt m i))), (0, .ref (a 1)), (1, .int (nI w)), (2, .int (nI s)), (3, .int (nI i))] rfl (lt_n hn rfl) dX0_evenBitsLedByOne_17 ?_
          refine x_iload hC 0 rfl dX0_evenBitsLedByOne_19 ?_
          refine x_if_lt_F hC 49 dX0_evenBitsLedByOne_21 rfl (by have := mt_lt hmb2; rw [i32_lt, i32_0, nI_toI (by omega)]; omega) ?_
          have hmt := mt_lt hmb2
          refine x_iload_n hC 2 rfl dX0_evenBitsLedByOne_24 ?_
          refine x_iload hC 0 rfl dX0_evenBitsLedByOne_25 ?_
          refine x_ishrE hC (z := (nI (w / 2 ^ (mt m i)))) (nI_shr (by omega) (by omega)) dX0_evenBitsLedByOne_27 ?_
          refine x_iconst hC (v := (nI 1)) dX0_evenBitsLedByOne_28 rfl ?_
          refine x_iandE hC (z := (nI (bt w (mt m i)))) (nI_and1 _) dX0_evenBitsLedByOne_29 ?_
          refine x_iload_n hC 2 rfl dX0_evenBitsLedByOne_30 ?_
          refine x_iload_n hC 4 rfl dX0_evenBitsLedByOne_31 ?_
          refine x_ishrE hC (z := (nI (w / 2 ^ i))) (nI_shr (by omega) (by omega)) dX0_evenBitsLedByOne_32 ?_
          refine x_iconst hC (v := (nI 1)) dX0_evenBitsLedByOne_33 rfl ?_
          refine x_iandE hC (z := (nI (bt w i))) (nI_and1 _) dX0_evenBitsLedByOne_34 ?_
          refine x_icmp_eqN hC 49 dX0_evenBitsLedByOne_35 rfl (by have := bt_lt w (mt m i); omega) (by have := bt_lt w i; omega) (fun h35 => ?_) (fun h35 => ?_)
          · -- 35 T
            refine x_iinc hC (z := 1) (v := (nI (i + 1))) 4 rfl (nI_add i 1) [(3, .int (nI (i + 1))), (4, .int (nI (mt m i))), (0, .ref (a 1)), (1, .int (nI w)), (2, .int (nI s))] rfl (lt_n hn rfl) dX0_evenBitsLedByOne_49 ?_
            refine x_goto hC 4 dX0_evenBitsLedByOne_52 rfl ?_
            refine x_lv [2, 3, 4, 0] rfl ?_
            exact ih4 s (i + 1) (by omega) (by rw [hs]; first | exact (if_pos ⟨hma, hmb2, h35⟩).symm | exact (if_neg (fun q => q.2.2 h35)).symm) (by omega)
          · -- 35 F
            refine x_iload_n hC 3 rfl dX0_evenBitsLedByOne_38 ?_
            refine x_iconst hC (v := (nI 1)) dX0_evenBitsLedByOne_39 rfl ?_
            refine x_ishlE hC (z := (nI (s * 2 ^ 1))) (nI_shl _ (by omega)) dX0_evenBitsLedByOne_40 ?_
            refine x_iload_n hC 2 rfl dX0_evenBitsLedByOne_41 ?_
            refine x_iload hC 0 rfl dX0_evenBitsLedByOne_42 ?_
            refine x_ishrE hC (z := (nI (w / 2 ^ (mt m i)))) (nI_shr (by omega) (by omega)) dX0_evenBitsLedByOne_44 ?_
            refine x_iconst hC (v := (nI 1)) dX0_evenBitsLedByOne_45 rfl ?_
            refine x_iandE hC (z := (nI (bt w (mt m i)))) (nI_and1 _) dX0_evenBitsLedByOne_46 ?_
            refine x_iorE hC (z := (nI ((s * 2 ^ 1) ||| (bt w (mt m i))))) (nI_or _ _) dX0_evenBitsLedByOne_47 ?_
            refine x_istore_n hC [(2, .int (nI ((s * 2 ^ 1) ||| (bt w (mt m i))))), (4, .int (nI (mt m i))), (0, .ref (a 1)), (1, .int (nI w)), (3, .int (nI i))] rfl (lt_n hn rfl) dX0_evenBitsLedByOne_48 ?_
            refine x_iinc hC (z := 1) (v := (nI (i + 1))) 4 rfl (nI_add i 1) [(3, .int (nI (i + 1))), (2, .int (nI ((s * 2 ^ 1) ||| (bt w (mt m i))))), (4, .int (nI (mt m i))), (0, .ref (a 1)), (1, .int (nI w))] rfl (lt_n hn rfl) dX0_evenBitsLedByOne_49 ?_
            refine x_goto hC 4 dX0_evenBitsLedByOne_52 rfl ?_
            refine x_lv [3, 4, 1, 0] rfl ?_
            exact ih4 ((s * 2 ^ 1) ||| (bt w (mt m i))) (i + 1) (by omega) (by rw [hs]; first | exact (if_pos ⟨hma, hmb2, h35⟩).symm | exact (if_neg (fun q => q.2.2 h35)).symm) (by omega)
        · skip
          refine x_istore hC [(4, .int (zI (-1))), (0, .ref (a 1)), (1, .int (nI w)), (2, .int (nI s)), (3, .int (nI i))] rfl (lt_n hn rfl) dX0_evenBitsLedByOne_17 ?_
          refine x_iload hC 0 rfl dX0_evenBitsLedByOne_19 ?_
          refine x_if_lt_T hC 49 dX0_evenBitsLedByOne_21 rfl (by decide) ?_
          refine x_iinc hC (z := 1) (v := (nI (i + 1))) 4 rfl (nI_add i 1) [(3, .int (nI (i + 1))), (4, .int (zI (-1))), (0, .ref (a 1)), (1, .int (nI w)), (2, .int (nI s))] rfl (lt_n hn rfl) dX0_evenBitsLedByOne_49 ?_
          refine x_goto hC 4 dX0_evenBitsLedByOne_52 rfl ?_
          refine x_lv [2, 3, 4, 0] rfl ?_
          exact ih4 s (i + 1) (by omega) (by rw [hs]; exact evx_n hma) (by omega)
  exact L4 _ 1 0 (Nat.lt_succ_self _) rfl (by omega)
set_option maxHeartbeats 4000000 in
set_option maxRecDepth 100000 in
theorem c_X0_expectedEvenBits {l : Launch} {D : va_G} {c : Nat → ClassId} {a : Nat → Nat} {μ : Me} {n m : Nat} {le : Nat → Nat} (hn0 : μ 0 0 = nI n) (hm : μ 0 1 = nI m) (hmb : m < 2 ^ 31) (hb : n ≤ 14) (h10 : ∀ j, j < 14 → μ 10 j = nI (le j)) (hl : ∀ j, j < 14 → le j ≤ 8) : KI l D (tyE c) (xw c a) yX0_expectedEvenBits cX0_expectedEvenBits 4 .int (rmL 3) [.ref (a 1)] μ (fun r u => r = nI (exx m le n) ∧ μ = u) := by
  refine x_enterI (by decide) (Nat.le_of_ble_eq_true rfl) (fun F hl hD hn hRm hC hR => ?_)
  subst hl hD
  change XW F 0 0 (xw c a μ) [(0, .ref (a 1))] 0 []
  change FC F cX0_expectedEvenBits RX0 (tyE c) at hC
  refine x_iconst hC (v := (nI 0)) dX0_expectedEvenBits_0 rfl ?_
  refine x_istore_n hC [(1, .int (nI 0)), (0, .ref (a 1))] rfl (lt_n hn rfl) dX0_expectedEvenBits_1 ?_
  refine x_iconst hC (v := (nI 0)) dX0_expectedEvenBits_2 rfl ?_
  refine x_istore_n hC [(2, .int (nI 0)), (1, .int (nI 0)), (0, .ref (a 1))] rfl (lt_n hn rfl) dX0_expectedEvenBits_3 ?_
  refine x_lv [2, 1, 0] rfl ?_
  have L4 : ∀ (N4 : Nat) (s : Nat) (i : Nat), n - i < N4 → (s = exx m le i) → (i ≤ n) → XW F 0 0 (xw c a μ) [(0, .ref (a 1)), (1, .int (nI s)), (2, .int (nI i))] 4 [] := by
    intro N4
    induction N4 with
    | zero => intro s i hN4 hs hi; exact absurd hN4 (by omega)
    | succ N4 ih4 =>
      intro s i hN4 hs hi
      refine x_iload_n hC 2 rfl dX0_expectedEvenBits_4 ?_
      refine x_aload_n hC 0 rfl dX0_expectedEvenBits_5 ?_
      refine x_get hC fl_X0_9 dX0_expectedEvenBits_6 1 rfl (v := .int (nI n)) (xv hn0) ?_
      refine x_icmp_geN hC 50 dX0_expectedEvenBits_9 rfl (by omega) (by omega) (fun h9 => ?_) (fun h9 => ?_)
      · -- 9 T
        refine x_iload_n hC 1 rfl dX0_expectedEvenBits_50 ?_
        exact x_iret hC hR dX0_expectedEvenBits_51 (⟨by rw [hs, show i = n by omega], rfl⟩)
      · -- 9 F
        refine x_aload_n hC 0 rfl dX0_expectedEvenBits_12 ?_
        refine x_iload_n hC 2 rfl dX0_expectedEvenBits_13 ?_
        refine x_callVI hC cw_X0_52 (c_X0_mateOf (i := i) (m := m) (by first | assumption | omega) (by first | assumption | omega) (by first | assumption | omega)) dX0_expectedEvenBits_14 [] rfl (Nat.le_of_ble_eq_true rfl) rfl (rm_ok hRm (by decide) (by decide)) 0 1 rfl rfl (fun r14 m14 hp14 => ?_)
        obtain ⟨hqhp14, rfl⟩ := hp14
        rcases hqhp14 with ⟨hma, hmb2, rfl⟩ | ⟨hma, rfl⟩
        · skip
          refine x_istore_n hC [(3, .int (nI (mt m i))), (0, .ref (a 1)), (1, .int (nI s)), (2, .int (nI i))] rfl (lt_n hn rfl) dX0_expectedEvenBits_17 ?_
          refine x_iload_n hC 0 rfl dX0_expectedEvenBits_18 ?_
          refine x_if_lt_F hC 44 dX0_expectedEvenBits_19 rfl (by have := mt_lt hmb2; rw [i32_lt, i32_0, nI_toI (by omega)]; omega) ?_
          have hmt := mt_lt hmb2
          refine x_iload_n hC 2 rfl dX0_expectedEvenBits_22 ?_
          refine x_aload_n hC 1 rfl dX0_expectedEvenBits_23 ?_
          refine x_get hC fl_X0_20 dX0_expectedEvenBits_24 1 rfl rfl ?_
          refine x_iconst hC (v := (nI 2)) dX0_expectedEvenBits_27 rfl ?_
          refine x_aald hC 7 3 rfl rfl (y := a 10) (by decide) (by decide) (by rfl) dX0_expectedEvenBits_28 ?_
          refine x_iload_n hC 0 rfl dX0_expectedEvenBits_29 ?_
          refine x_iald hC 10 0 rfl rfl (y := (nI (le (mt m i)))) (by omega) (by decide) (h10 (mt m i) (by omega)) dX0_expectedEvenBits_30 ?_
          refine x_aload_n hC 1 rfl dX0_expectedEvenBits_31 ?_
          refine x_get hC fl_X0_20 dX0_expectedEvenBits_32 1 rfl rfl ?_
          refine x_iconst hC (v := (nI 2)) dX0_expectedEvenBits_35 rfl ?_
          refine x_aald hC 7 3 rfl rfl (y := a 10) (by decide) (by decide) (by rfl) dX0_expectedEvenBits_36 ?_
          refine x_iload_n hC 3 rfl dX0_expectedEvenBits_37 ?_
          refine x_iald hC 10 0 rfl rfl (y := (nI (le i))) (by omega) (by decide) (h10 i (by omega)) dX0_expectedEvenBits_38 ?_
          refine x_callN hC cs_X0_55 (c_X0_expectedOfTwo (p := (le (mt m i))) (q := (le i))  (hl _ (by omega)) (hl _ (by omega))) dX0_expectedEvenBits_39 [.int (nI s)] rfl (Nat.le_of_ble_eq_true rfl) rfl (rm_ok hRm (by decide) (by decide)) ?_
          refine x_iaddE hC (z := (nI (s + ((le (mt m i)) * (8 - (le i)) + (8 - (le (mt m i))) * (le i))))) (nI_add _ _) dX0_expectedEvenBits_42 ?_
          refine x_istore_n hC [(1, .int (nI (s + ((le (mt m i)) * (8 - (le i)) + (8 - (le (mt m i))) * (le i))))), (3, .int (nI (mt m i))), (0, .ref (a 1)), (2, .int (nI i))] rfl (lt_n hn rfl) dX0_expectedEvenBits_43 ?_
          refine x_iinc hC (z := 1) (v := (nI (i + 1))) 3 rfl (nI_add i 1) [(2, .int (nI (i + 1))), (1, .int (nI (s + ((le (mt m i)) * (8 - (le i)) + (8 - (le (mt m i))) * (le i))))), (3, .int (nI (mt m i))), (0, .ref (a 1))] rfl (lt_n hn rfl) dX0_expectedEvenBits_44 ?_
          refine x_goto hC 4 dX0_expectedEvenBits_47 rfl ?_
          refine x_lv [3, 1, 0] rfl ?_
          exact ih4 (s + ((le (mt m i)) * (8 - (le i)) + (8 - (le (mt m i))) * (le i))) (i + 1) (by omega) (by rw [hs]; first | exact (if_pos ⟨hma, hmb2⟩).symm | exact (if_neg hma).symm) (by omega)
        · skip
          refine x_istore_n hC [(3, .int (zI (-1))), (0, .ref (a 1)), (1, .int (nI s)), (2, .int (nI i))] rfl (lt_n hn rfl) dX0_expectedEvenBits_17 ?_
          refine x_iload_n hC 0 rfl dX0_expectedEvenBits_18 ?_
          refine x_if_lt_T hC 44 dX0_expectedEvenBits_19 rfl (by decide) ?_
          refine x_iinc hC (z := 1) (v := (nI (i + 1))) 3 rfl (nI_add i 1) [(2, .int (nI (i + 1))), (3, .int (zI (-1))), (0, .ref (a 1)), (1, .int (nI s))] rfl (lt_n hn rfl) dX0_expectedEvenBits_44 ?_
          refine x_goto hC 4 dX0_expectedEvenBits_47 rfl ?_
          refine x_lv [2, 3, 0] rfl ?_
          exact ih4 s (i + 1) (by omega) (by rw [hs]; first | exact (if_pos ⟨hma, hmb2⟩).symm | exact (if_neg hma).symm) (by omega)
  exact L4 _ 0 0 (Nat.lt_succ_self _) rfl (by omega)
set_option maxHeartbeats 4000000 in
set_option maxRecDepth 100000 in
theorem c_X0_change {l : Launch} {D : va_G} {c : Nat → ClassId} {a : Nat → Nat} {μ : Me} {i t v : Nat} (hi : i < 14) (ht : t < 3) : KI l D (tyE c) (xw c a) yX0_change cX0_change 5 .int (rmL 1) [.ref (a 1), .int (nI i), .int (nI t), .int (nI v)] μ (fun r u => r = μ (8 + t) i ∧ u = up μ (8 + t) i (nI v)) := by
  refine x_enterI (by decide) (Nat.le_of_ble_eq_true rfl) (fun F hl hD hn hRm hC hR => ?_)
  subst hl hD
  change XW F 0 0 (xw c a μ) [(0, .ref (a 1)), (1, .int (nI i)), (2, .int (nI t)), (3, .int (nI v))] 0 []
  change FC F cX0_change RX0 (tyE c) at hC
  obtain rfl | rfl | rfl : t = 0 ∨ t = 1 ∨ t = 2 := by omega
  · skip
    refine x_aload_n hC 0 rfl dX0_change_0 ?_
    refine x_get hC fl_X0_20 dX0_change_1 1 rfl rfl ?_
    refine x_iload_n hC 2 rfl dX0_change_4 ?_
    refine x_aald hC 7 3 rfl rfl (y := a 8) (by decide) (by decide) (by rfl) dX0_change_5 ?_
    refine x_iload_n hC 1 rfl dX0_change_6 ?_
    refine x_iald hC 8 0 rfl rfl (y := (μ 8 i)) (by omega) (by decide) (rfl) dX0_change_7 ?_
    refine x_istore hC [(4, .int (μ 8 i)), (0, .ref (a 1)), (1, .int (nI i)), (2, .int (nI 0)), (3, .int (nI v))] rfl (lt_n hn rfl) dX0_change_8 ?_
    refine x_aload_n hC 1 rfl dX0_change_10 ?_
    refine x_get hC fl_X0_20 dX0_change_11 1 rfl rfl ?_
    refine x_iload_n hC 3 rfl dX0_change_14 ?_
    refine x_aald hC 7 3 rfl rfl (y := a 8) (by decide) (by decide) (by rfl) dX0_change_15 ?_
    refine x_iload_n hC 2 rfl dX0_change_16 ?_
    refine x_iload_n hC 4 rfl dX0_change_17 ?_
    refine x_iast hC 8 0 rfl rfl (by omega) (by decide) (xw c a (up μ 8 i (nI v))) rfl dX0_change_18 ?_
    refine x_iload hC 0 rfl dX0_change_19 ?_
    exact x_iret hC hR dX0_change_21 (⟨rfl, rfl⟩)
  · skip
    refine x_aload_n hC 0 rfl dX0_change_0 ?_
    refine x_get hC fl_X0_20 dX0_change_1 1 rfl rfl ?_
    refine x_iload_n hC 2 rfl dX0_change_4 ?_
    refine x_aald hC 7 3 rfl rfl (y := a 9) (by decide) (by decide) (by rfl) dX0_change_5 ?_
    refine x_iload_n hC 1 rfl dX0_change_6 ?_
    refine x_iald hC 9 0 rfl rfl (y := (μ 9 i)) (by omega) (by decide) (rfl) dX0_change_7 ?_
    refine x_istore hC [(4, .int (μ 9 i)), (0, .ref (a 1)), (1, .int (nI i)), (2, .int (nI 1)), (3, .int (nI v))] rfl (lt_n hn rfl) dX0_change_8 ?_
    refine x_aload_n hC 1 rfl dX0_change_10 ?_
    refine x_get hC fl_X0_20 dX0_change_11 1 rfl rfl ?_
    refine x_iload_n hC 3 rfl dX0_change_14 ?_
    refine x_aald hC 7 3 rfl rfl (y := a 9) (by decide) (by decide) (by rfl) dX0_change_15 ?_
    refine x_iload_n hC 2 rfl dX0_change_16 ?_
    refine x_iload_n hC 4 rfl dX0_change_17 ?_
    refine x_iast hC 9 0 rfl rfl (by omega) (by decide) (xw c a (up μ 9 i (nI v))) rfl dX0_change_18 ?_
    refine x_iload hC 0 rfl dX0_change_19 ?_
    exact x_iret hC hR dX0_change_21 (⟨rfl, rfl⟩)
  · skip
    refine x_aload_n hC 0 rfl dX0_change_0 ?_
    refine x_get hC fl_X0_20 dX0_change_1 1 rfl rfl ?_
    refine x_iload_n hC 2 rfl dX0_change_4 ?_
    refine x_aald hC 7 3 rfl rfl (y := a 10) (by decide) (by decide) (by rfl) dX0_change_5 ?_
    refine x_iload_n hC 1 rfl dX0_change_6 ?_
    refine x_iald hC 10 0 rfl rfl (y := (μ 10 i)) (by omega) (by decide) (rfl) dX0_change_7 ?_
    refine x_istore hC [(4, .int (μ 10 i)), (0, .ref (a 1)), (1, .int (nI i)), (2, .int (nI 2)), (3, .int (nI v))] rfl (lt_n hn rfl) dX0_change_8 ?_
    refine x_aload_n hC 1 rfl dX0_change_10 ?_
    refine x_get hC fl_X0_20 dX0_change_11 1 rfl rfl ?_
    refine x_iload_n hC 3 rfl dX0_change_14 ?_
    refine x_aald hC 7 3 rfl rfl (y := a 10) (by decide) (by decide) (by rfl) dX0_change_15 ?_
    refine x_iload_n hC 2 rfl dX0_change_16 ?_
    refine x_iload_n hC 4 rfl dX0_change_17 ?_
    refine x_iast hC 10 0 rfl rfl (by omega) (by decide) (xw c a (up μ 10 i (nI v))) rfl dX0_change_18 ?_
    refine x_iload hC 0 rfl dX0_change_19 ?_
    exact x_iret hC hR dX0_change_21 (⟨rfl, rfl⟩)
