/-! Code -/
theorem pow_le64 {k : Nat} (h : k ≤ 6) : 2 ^ k ≤ 64 := Nat.pow_le_pow_right (by decide) h
/-- w is one of the words 0 .. m - 1 -/
def hol (W : Nat → Nat) (m w : Nat) : Bool := !(allN (fun j => decide (W j ≠ w)) m)
def fbx (d : Nat → Nat) : Nat → Nat
  | 0 => 0
  | i + 1 => if i = 0 then 0 else if i = 1 ∨ d i < fbx d i then d i else fbx d i
theorem fbx_le {d : Nat → Nat} {x : Nat} (h : ∀ i, d i ≤ x) : ∀ i, fbx d i ≤ x
  | 0 => Nat.zero_le _
  | i + 1 => by
    show (if i = 0 then 0 else if i = 1 ∨ d i < fbx d i then d i else fbx d i) ≤ x
    have h1 := fbx_le h i
    have h2 := h i
    split
    · omega
    · split <;> omega
theorem xor_lt14 {a b : Nat} (ha : a < 16384) (hb : b < 16384) : a ^^^ b < 16384 := Nat.xor_lt_two_pow (n := 14) ha hb
theorem pow_lt14 {c : Nat} (h : c < 14) : 2 ^ c < 16384 := show 2 ^ c < 2 ^ 14 from Nat.pow_lt_pow_right (by decide) h
theorem upd_all {f : Nat → Int32} {i : Nat} {x : Int32} {Q : Nat → Int32 → Prop} (h : ∀ j, j < i → Q j (f j)) (hx : Q i x) : ∀ j, j < i + 1 → Q j (upd f i x j) := fun j hj => by
  by_cases q : j = i
  · subst q; rw [upd_s]; exact hx
  · rw [upd_n q]; exact h j (by omega)
theorem upd_sh {f : Nat → Int32} {b i : Nat} {x : Int32} {Q : Nat → Int32 → Prop} (h : ∀ j, j < i → Q j (f (b + j))) (hx : Q i x) : ∀ j, j < i + 1 → Q j (upd f (b + i) x (b + j)) := fun j hj => by
  by_cases q : j = i
  · subst q; rw [upd_s]; exact hx
  · rw [upd_n (by omega)]; exact h j (by omega)
theorem upd_two {f g : Nat → Int32} {i : Nat} {x y : Int32} {Q : Nat → Int32 → Int32 → Prop} (h : ∀ j, j < i → Q j (f j) (g j)) (hx : Q i x y) : ∀ j, j < i + 1 → Q j (upd f i x j) (upd g i y j) := fun j hj => by
  by_cases q : j = i
  · subst q; rw [upd_s, upd_s]; exact hx
  · rw [upd_n q, upd_n q]; exact h j (by omega)
/-! Flips -/
def flp (m : Nat) (p : Nat → Nat) (j : Nat) : Nat := if bt m j = 1 then 0 else p j
def sty (m : Nat) (p : Nat → Nat) (j : Nat) : Nat := if bt m j = 1 then 1 else 8 - p j
/-- harmless ways of the last d of n cells -/
def hlx (fl sy nk : Nat → Nat) (key n : Nat) : Nat → Nat → Nat
  | 0, _ => 1
  | d + 1, w => sy (n - (d + 1)) * hlx fl sy nk key n d w + (if 0 < fl (n - (d + 1)) ∧ nk (w ^^^ 2 ^ (n - (d + 1))) = key then fl (n - (d + 1)) * hlx fl sy nk key n d (w ^^^ 2 ^ (n - (d + 1))) else 0)

set_option maxHeartbeats 4000000 in
set_option maxRecDepth 100000 in
theorem c_X2_keys {l : Launch} {D : va_G} {c : Nat → ClassId} {a : Nat → Nat} {μ : Me} {k : Nat} (h2 : μ 0 2 = nI k) (hk : k ≤ 6) : KI l D (tyE c) (xw c a) yX2_keys cX2_keys 1 .int (rmL 1) [.ref (a 2)] μ (fun r u => r = nI (2 ^ k) ∧ μ = u) := by
  refine x_enterI (by decide) (Nat.le_of_ble_eq_true rfl) (fun F hl hD hn hRm hC hR => ?_)
  subst hl hD
  change XW F 0 0 (xw c a μ) [(0, .ref (a 2))] 0 []
  change FC F cX2_keys RX2 (tyE c) at hC
  refine x_iconst hC (v := (nI 1)) dX2_keys_0 rfl ?_
  refine x_aload_n hC 0 rfl dX2_keys_1 ?_
  refine x_get hC fl_X2_7 dX2_keys_2 2 rfl (v := .int (nI k)) (xv h2) ?_
  refine x_ishlE hC (z := (nI (2 ^ k))) (nI_shl1 (by omega)) dX2_keys_5 ?_
  exact x_iret hC hR dX2_keys_6 (⟨rfl, rfl⟩)
set_option maxHeartbeats 4000000 in
set_option maxRecDepth 100000 in
theorem c_X2_isKey {l : Launch} {D : va_G} {c : Nat → ClassId} {a : Nat → Nat} {μ : Me} {x : Int32} {k : Nat} (h2 : μ 0 2 = nI k) (hk : k ≤ 6) : KI l D (tyE c) (xw c a) yX2_isKey cX2_isKey 2 .boolean (rmL 2) [.ref (a 2), .int x] μ (fun r u => r = bz (isI (2 ^ k) x) ∧ μ = u) := by
  refine x_enterI (by decide) (Nat.le_of_ble_eq_true rfl) (fun F hl hD hn hRm hC hR => ?_)
  subst hl hD
  change XW F 0 0 (xw c a μ) [(0, .ref (a 2)), (1, .int x)] 0 []
  change FC F cX2_isKey RX2 (tyE c) at hC
  have hp := pow_le64 hk
  have hp1 : 1 ≤ 2 ^ k := Nat.one_le_two_pow
  refine x_iload_n hC 1 rfl dX2_isKey_0 ?_
  refine x_if_lt hC 16 dX2_isKey_1 rfl (fun h1 => ?_) (fun h1 => ?_)
  · -- 1 T
    refine x_iconst hC (v := (nI 0)) dX2_isKey_16 rfl ?_
    exact x_zret hC hR dX2_isKey_17 rfl (⟨by first | exact isI_f0 h1 | exact isI_f1 (by omega) h9 | exact isI_t1 (by omega) h1 h9, rfl⟩)
  · -- 1 F
    refine x_iload_n hC 1 rfl dX2_isKey_4 ?_
    refine x_aload_n hC 0 rfl dX2_isKey_5 ?_
    refine x_callVI hC cw_X2_17 (c_X2_keys  (k := k) (by first | assumption | omega) (by first | assumption | omega)) dX2_isKey_6 [.int x] rfl (Nat.le_of_ble_eq_true rfl) rfl (rm_ok hRm (by decide) (by decide)) 2 2 rfl rfl (fun r6 m6 hp6 => ?_)
    obtain ⟨rfl, rfl⟩ := hp6
    refine x_icmp_ge hC 16 dX2_isKey_9 rfl (fun h9 => ?_) (fun h9 => ?_)
    · -- 9 T
      refine x_iconst hC (v := (nI 0)) dX2_isKey_16 rfl ?_
      exact x_zret hC hR dX2_isKey_17 rfl (⟨by first | exact isI_f0 h1 | exact isI_f1 (by omega) h9 | exact isI_t1 (by omega) h1 h9, rfl⟩)
    · -- 9 F
      refine x_iconst hC (v := (nI 1)) dX2_isKey_12 rfl ?_
      refine x_goto hC 17 dX2_isKey_13 rfl ?_
      exact x_zret hC hR dX2_isKey_17 rfl (⟨by first | exact isI_f0 h1 | exact isI_f1 (by omega) h9 | exact isI_t1 (by omega) h1 h9, rfl⟩)
set_option maxHeartbeats 4000000 in
set_option maxRecDepth 100000 in
theorem c_X2_dropRows {l : Launch} {D : va_G} {c : Nat → ClassId} {a : Nat → Nat} {μ : Me}  : KV l D (tyE c) (xw c a) yX2_dropRows cX2_dropRows 1 (rmL 1) [.ref (a 2)] μ (fun u => u = up μ 0 2 (nI 0)) := by
  refine x_enterV (by decide) (Nat.le_of_ble_eq_true rfl) (fun F hl hD hn hRm hC hR => ?_)
  subst hl hD
  change XW F 0 0 (xw c a μ) [(0, .ref (a 2))] 0 []
  change FC F cX2_dropRows RX2 (tyE c) at hC
  refine x_aload_n hC 0 rfl dX2_dropRows_0 ?_
  refine x_iconst hC (v := (nI 0)) dX2_dropRows_1 rfl ?_
  refine x_put hC fp_X2_7 dX2_dropRows_2 2 rfl rfl rfl (Nat.le_of_ble_eq_true rfl) (xw c a (up μ 0 2 (nI 0))) rfl ?_
  exact x_vret hC hR dX2_dropRows_5 (rfl)
set_option maxHeartbeats 4000000 in
set_option maxRecDepth 100000 in
theorem c_X2_holds {l : Launch} {D : va_G} {c : Nat → ClassId} {a : Nat → Nat} {μ : Me} {w k : Nat} {W : Nat → Nat} (h2 : μ 0 2 = nI k) (hk : k ≤ 6) (h11 : ∀ j, j < 2 ^ k → μ 11 j = nI (W j)) (hWb : ∀ j, j < 2 ^ k → W j < 16384) (hw : w < 16384) : KI l D (tyE c) (xw c a) yX2_holds cX2_holds 3 .boolean (rmL 2) [.ref (a 2), .int (nI w)] μ (fun r u => r = bz (hol W (2 ^ k) w) ∧ μ = u) := by
  refine x_enterI (by decide) (Nat.le_of_ble_eq_true rfl) (fun F hl hD hn hRm hC hR => ?_)
  subst hl hD
  change XW F 0 0 (xw c a μ) [(0, .ref (a 2)), (1, .int (nI w))] 0 []
  change FC F cX2_holds RX2 (tyE c) at hC
  have hp := pow_le64 hk
  have hp1 : 1 ≤ 2 ^ k := Nat.one_le_two_pow
  refine x_iconst hC (v := (nI 0)) dX2_holds_0 rfl ?_
  refine x_istore_n hC [(2, .int (nI 0)), (0, .ref (a 2)), (1, .int (nI w))] rfl (lt_n hn rfl) dX2_holds_1 ?_
  refine x_lv [1, 2, 0] rfl ?_
  have L2 : ∀ (N2 : Nat) (i : Nat), 2 ^ k - i < N2 → (i ≤ 2 ^ k) → (allN (fun j => decide (W j ≠ w)) i = true) → XW F 0 0 (xw c a μ) [(0, .ref (a 2)), (1, .int (nI w)), (2, .int (nI i))] 2 [] := by
    intro N2
    induction N2 with
    | zero => intro i hN2 hi ha; exact absurd hN2 (by omega)
    | succ N2 ih2 =>
      intro i hN2 hi ha
      refine x_iload_n hC 2 rfl dX2_holds_2 ?_
      refine x_aload_n hC 0 rfl dX2_holds_3 ?_
      refine x_callVI hC cw_X2_17 (c_X2_keys  (k := k) (by first | assumption | omega) (by first | assumption | omega)) dX2_holds_4 [.int (nI i)] rfl (Nat.le_of_ble_eq_true rfl) rfl (rm_ok hRm (by decide) (by decide)) 2 2 rfl rfl (fun r4 m4 hp4 => ?_)
      obtain ⟨rfl, rfl⟩ := hp4
      refine x_icmp_geN hC 28 dX2_holds_7 rfl (by omega) (by omega) (fun h7 => ?_) (fun h7 => ?_)
      · -- 7 T
        refine x_iconst hC (v := (nI 0)) dX2_holds_28 rfl ?_
        exact x_zret hC hR dX2_holds_29 rfl (⟨by have hq := ha; rw [show i = 2 ^ k by omega] at hq; rw [hol, hq]; rfl, rfl⟩)
      · -- 7 F
        refine x_aload_n hC 0 rfl dX2_holds_10 ?_
        refine x_get hC fl_X2_13 dX2_holds_11 2 rfl rfl ?_
        refine x_iload_n hC 2 rfl dX2_holds_14 ?_
        refine x_iald hC 11 0 rfl rfl (y := (nI (W i))) (by omega) (by decide) (h11 i (by omega)) dX2_holds_15 ?_
        refine x_iload_n hC 1 rfl dX2_holds_16 ?_
        refine x_icmp_neN hC 22 dX2_holds_17 rfl (by have := hWb i (by omega); omega) (by omega) (fun h17 => ?_) (fun h17 => ?_)
        · -- 17 T
          refine x_iinc hC (z := 1) (v := (nI (i + 1))) 2 rfl (nI_add i 1) [(2, .int (nI (i + 1))), (0, .ref (a 2)), (1, .int (nI w))] rfl (lt_n hn rfl) dX2_holds_22 ?_
          refine x_goto hC 2 dX2_holds_25 rfl ?_
          refine x_lv [1, 2, 0] rfl ?_
          exact ih2 (i + 1) (by omega) (by omega) (by simp only [allN, ha, Bool.true_and, decide_eq_true_eq]; exact h17)
        · -- 17 F
          refine x_iconst hC (v := (nI 1)) dX2_holds_20 rfl ?_
          exact x_zret hC hR dX2_holds_21 rfl (⟨by rw [hol, allN_F (i := i) (by omega) (by simp [h17])]; rfl, rfl⟩)
  exact L2 _ 0 (Nat.lt_succ_self _) (by omega) rfl
set_option maxHeartbeats 4000000 in
set_option maxRecDepth 100000 in
theorem c_X2_addRow {l : Launch} {D : va_G} {c : Nat → ClassId} {a : Nat → Nat} {μ : Me} {w k : Nat} {W : Nat → Nat} (h2 : μ 0 2 = nI k) (hk6 : k < 6) (h11 : ∀ j, j < 2 ^ k → μ 11 j = nI (W j)) : KV l D (tyE c) (xw c a) yX2_addRow cX2_addRow 4 (rmL 2) [.ref (a 2), .int (nI w)] μ (fun u => ∃ f, u = up (setc μ 11 f) 0 2 (nI (k + 1)) ∧ (∀ j, j < 2 ^ k → f j = nI (W j) ∧ f (2 ^ k + j) = nI (W j ^^^ w))) := by
  refine x_enterV (by decide) (Nat.le_of_ble_eq_true rfl) (fun F hl hD hn hRm hC hR => ?_)
  subst hl hD
  change XW F 0 0 (xw c a μ) [(0, .ref (a 2)), (1, .int (nI w))] 0 []
  change FC F cX2_addRow RX2 (tyE c) at hC
  have hk : k ≤ 6 := by omega
  have hp : 2 ^ k ≤ 2 ^ 5 := Nat.pow_le_pow_right (by decide) (by omega)
  have hp1 : 1 ≤ 2 ^ k := Nat.one_le_two_pow
  refine x_aload_n hC 0 rfl dX2_addRow_0 ?_
  refine x_get hC fl_X2_7 dX2_addRow_1 2 rfl (v := .int (nI k)) (xv h2) ?_
  refine x_bipush hC (v := (nI 6)) dX2_addRow_4 rfl ?_
  refine x_icmp_geN hC 53 dX2_addRow_6 rfl (by omega) (by decide) (fun h6 => ?_) (fun h6 => ?_)
  · -- 6 T
    exact absurd h6 (by omega)
  · -- 6 F
    refine x_aload_n hC 0 rfl dX2_addRow_9 ?_
    refine x_callVI hC cw_X2_17 (c_X2_keys  (k := k) (by first | assumption | omega) (by first | assumption | omega)) dX2_addRow_10 [] rfl (Nat.le_of_ble_eq_true rfl) rfl (rm_ok hRm (by decide) (by decide)) 2 2 rfl rfl (fun r10 m10 hp10 => ?_)
    obtain ⟨rfl, rfl⟩ := hp10
    refine x_istore_n hC [(2, .int (nI (2 ^ k))), (0, .ref (a 2)), (1, .int (nI w))] rfl (lt_n hn rfl) dX2_addRow_13 ?_
    refine x_iconst hC (v := (nI 0)) dX2_addRow_14 rfl ?_
    refine x_istore_n hC [(3, .int (nI 0)), (2, .int (nI (2 ^ k))), (0, .ref (a 2)), (1, .int (nI w))] rfl (lt_n hn rfl) dX2_addRow_15 ?_
    refine x_lv [2, 3, 1, 0] rfl ?_
    have L16 : ∀ (N16 : Nat) (f : Nat → Int32) (i : Nat), 2 ^ k - i < N16 → (i ≤ 2 ^ k) → (∀ j, j < 2 ^ k → f j = nI (W j)) → (∀ j, j < i → f (2 ^ k + j) = nI (W j ^^^ w)) → XW F 0 0 (xw c a (setc μ 11 f)) [(0, .ref (a 2)), (1, .int (nI w)), (2, .int (nI (2 ^ k))), (3, .int (nI i))] 16 [] := by
      intro N16
      induction N16 with
      | zero => intro f i hN16 hi hf hg; exact absurd hN16 (by omega)
      | succ N16 ih16 =>
        intro f i hN16 hi hf hg
        refine x_iload_n hC 3 rfl dX2_addRow_16 ?_
        refine x_iload_n hC 2 rfl dX2_addRow_17 ?_
        refine x_icmp_geN hC 43 dX2_addRow_18 rfl (by omega) (by omega) (fun h18 => ?_) (fun h18 => ?_)
        · -- 18 T
          refine x_aload_n hC 0 rfl dX2_addRow_43 ?_
          refine x_dup hC rfl dX2_addRow_44 ?_
          refine x_get hC fl_X2_7 dX2_addRow_45 2 rfl (v := .int (nI k)) (xv h2) ?_
          refine x_iconst hC (v := (nI 1)) dX2_addRow_48 rfl ?_
          refine x_iaddE hC (z := (nI (k + 1))) (nI_add _ _) dX2_addRow_49 ?_
          refine x_put hC fp_X2_7 dX2_addRow_50 2 rfl rfl rfl (Nat.le_of_ble_eq_true rfl) (xw c a (up (setc μ 11 f) 0 2 (nI (k + 1)))) rfl ?_
          exact x_vret hC hR dX2_addRow_53 (⟨f, rfl, fun j h => ⟨hf j h, hg j (by omega)⟩⟩)
        · -- 18 F
          refine x_aload_n hC 0 rfl dX2_addRow_21 ?_
          refine x_get hC fl_X2_13 dX2_addRow_22 2 rfl rfl ?_
          refine x_iload_n hC 2 rfl dX2_addRow_25 ?_
          refine x_iload_n hC 3 rfl dX2_addRow_26 ?_
          refine x_iaddE hC (z := (nI ((2 ^ k) + i))) (nI_add _ _) dX2_addRow_27 ?_
          refine x_aload_n hC 0 rfl dX2_addRow_28 ?_
          refine x_get hC fl_X2_13 dX2_addRow_29 2 rfl rfl ?_
          refine x_iload_n hC 3 rfl dX2_addRow_32 ?_
          refine x_iald hC 11 0 rfl rfl (y := (nI (W i))) (by omega) (by decide) ((hf i (by omega))) dX2_addRow_33 ?_
          refine x_iload_n hC 1 rfl dX2_addRow_34 ?_
          refine x_ixorE hC (z := (nI ((W i) ^^^ w))) (nI_xor _ _) dX2_addRow_35 ?_
          refine x_iast hC 11 0 rfl rfl (by omega) (by decide) (xw c a (setc μ 11 (upd f ((2 ^ k) + i) (nI ((W i) ^^^ w))))) rfl dX2_addRow_36 ?_
          refine x_iinc hC (z := 1) (v := (nI (i + 1))) 3 rfl (nI_add i 1) [(3, .int (nI (i + 1))), (0, .ref (a 2)), (1, .int (nI w)), (2, .int (nI (2 ^ k)))] rfl (lt_n hn rfl) dX2_addRow_37 ?_
          refine x_goto hC 16 dX2_addRow_40 rfl ?_
          refine x_lv [1, 2, 3, 0] rfl ?_
          exact ih16 (upd f (2 ^ k + i) (nI (W i ^^^ w))) (i + 1) (by omega) (by omega) (fun j h => by rw [upd_n (by omega)]; exact hf j h) (upd_sh (Q := fun j v => v = nI (W j ^^^ w)) hg rfl)
    exact L16 _ (μ 11) 0 (Nat.lt_succ_self _) (by omega) h11 (fun j h => absurd h (by omega))
set_option maxHeartbeats 4000000 in
set_option maxRecDepth 100000 in
theorem c_X2_fewestBits {l : Launch} {D : va_G} {c : Nat → ClassId} {a : Nat → Nat} {μ : Me} {k : Nat} {W : Nat → Nat} (h2 : μ 0 2 = nI k) (hk : k ≤ 6) (h11 : ∀ j, j < 2 ^ k → μ 11 j = nI (W j)) (hWb : ∀ j, j < 2 ^ k → W j < 16384) : KI l D (tyE c) (xw c a) yX2_fewestBits cX2_fewestBits 4 .int (rmL 2) [.ref (a 2)] μ (fun r u => r = nI (fbx (fun j => pc (W j)) (2 ^ k)) ∧ μ = u) := by
  refine x_enterI (by decide) (Nat.le_of_ble_eq_true rfl) (fun F hl hD hn hRm hC hR => ?_)
  subst hl hD
  change XW F 0 0 (xw c a μ) [(0, .ref (a 2))] 0 []
  change FC F cX2_fewestBits RX2 (tyE c) at hC
  have hp := pow_le64 hk
  have hp1 : 1 ≤ 2 ^ k := Nat.one_le_two_pow
  refine x_iconst hC (v := (nI 0)) dX2_fewestBits_0 rfl ?_
  refine x_istore_n hC [(1, .int (nI 0)), (0, .ref (a 2))] rfl (lt_n hn rfl) dX2_fewestBits_1 ?_
  refine x_iconst hC (v := (nI 1)) dX2_fewestBits_2 rfl ?_
  refine x_istore_n hC [(2, .int (nI 1)), (1, .int (nI 0)), (0, .ref (a 2))] rfl (lt_n hn rfl) dX2_fewestBits_3 ?_
  refine x_lv [2, 1, 0] rfl ?_
  have L4 : ∀ (N4 : Nat) (s : Nat) (i : Nat), 2 ^ k - i < N4 → (1 ≤ i ∧ i ≤ 2 ^ k) → (s = fbx (fun j => pc (W j)) i) → XW F 0 0 (xw c a μ) [(0, .ref (a 2)), (1, .int (nI s)), (2, .int (nI i))] 4 [] := by
    intro N4
    induction N4 with
    | zero => intro s i hN4 hi hs; exact absurd hN4 (by omega)
    | succ N4 ih4 =>
      intro s i hN4 hi hs
      refine x_iload_n hC 2 rfl dX2_fewestBits_4 ?_
      refine x_aload_n hC 0 rfl dX2_fewestBits_5 ?_
      refine x_callVI hC cw_X2_17 (c_X2_keys  (k := k) (by first | assumption | omega) (by first | assumption | omega)) dX2_fewestBits_6 [.int (nI i)] rfl (Nat.le_of_ble_eq_true rfl) rfl (rm_ok hRm (by decide) (by decide)) 2 2 rfl rfl (fun r6 m6 hp6 => ?_)
      obtain ⟨rfl, rfl⟩ := hp6
      refine x_icmp_geN hC 40 dX2_fewestBits_9 rfl (by omega) (by omega) (fun h9 => ?_) (fun h9 => ?_)
      · -- 9 T
        refine x_iload_n hC 1 rfl dX2_fewestBits_40 ?_
        exact x_iret hC hR dX2_fewestBits_41 (⟨by rw [hs, show i = 2 ^ k by omega], rfl⟩)
      · -- 9 F
        refine x_aload_n hC 0 rfl dX2_fewestBits_12 ?_
        refine x_get hC fl_X2_13 dX2_fewestBits_13 2 rfl rfl ?_
        refine x_iload_n hC 2 rfl dX2_fewestBits_16 ?_
        refine x_iald hC 11 0 rfl rfl (y := (nI (W i))) (by omega) (by decide) (h11 i (by omega)) dX2_fewestBits_17 ?_
        refine x_callN hC cs_X2_21 (c_J6_bitCount_0f7a4 (w := (W i))  (hWb i (by omega))) dX2_fewestBits_18 [] rfl (Nat.le_of_ble_eq_true rfl) rfl (rm_ok hRm (by decide) (by decide)) ?_
        refine x_istore_n hC [(3, .int (nI (pc (W i)))), (0, .ref (a 2)), (1, .int (nI s)), (2, .int (nI i))] rfl (lt_n hn rfl) dX2_fewestBits_21 ?_
        refine x_iload_n hC 3 rfl dX2_fewestBits_22 ?_
        refine x_iconst hC (v := (nI 1)) dX2_fewestBits_23 rfl ?_
        refine x_icmp_eqN hC 32 dX2_fewestBits_24 rfl (by omega) (by decide) (fun h24 => ?_) (fun h24 => ?_)
        · -- 24 T
          refine x_iload_n hC 0 rfl dX2_fewestBits_32 ?_
          refine x_istore_n hC [(1, .int (nI (pc (W i)))), (3, .int (nI (pc (W i)))), (0, .ref (a 2)), (2, .int (nI i))] rfl (lt_n hn rfl) dX2_fewestBits_33 ?_
          refine x_iinc hC (z := 1) (v := (nI (i + 1))) 3 rfl (nI_add i 1) [(2, .int (nI (i + 1))), (1, .int (nI (pc (W i)))), (3, .int (nI (pc (W i)))), (0, .ref (a 2))] rfl (lt_n hn rfl) dX2_fewestBits_34 ?_
          refine x_goto hC 4 dX2_fewestBits_37 rfl ?_
          refine x_lv [3, 1, 0] rfl ?_
          exact ih4 (pc (W i)) (i + 1) (by omega) (by omega) (by rw [fbx]; simp only [show i ≠ 0 by omega, if_false]; first | (rw [if_pos (Or.inl h24)]; done) | (rw [if_pos (Or.inr (hs ▸ h29))]; done) | (rw [if_neg (by rw [← hs]; omega)]; exact hs))
        · -- 24 F
          refine x_iload_n hC 0 rfl dX2_fewestBits_27 ?_
          refine x_iload_n hC 2 rfl dX2_fewestBits_28 ?_
          refine x_icmp_geN hC 34 dX2_fewestBits_29 rfl (by have := pc_le (W i); omega) (by have := fbx_le (fun j => pc_le (W j)) i; omega) (fun h29 => ?_) (fun h29 => ?_)
          · -- 29 T
            refine x_iinc hC (z := 1) (v := (nI (i + 1))) 3 rfl (nI_add i 1) [(2, .int (nI (i + 1))), (3, .int (nI (pc (W i)))), (0, .ref (a 2)), (1, .int (nI s))] rfl (lt_n hn rfl) dX2_fewestBits_34 ?_
            refine x_goto hC 4 dX2_fewestBits_37 rfl ?_
            refine x_lv [2, 3, 0] rfl ?_
            exact ih4 s (i + 1) (by omega) (by omega) (by rw [fbx]; simp only [show i ≠ 0 by omega, if_false]; first | (rw [if_pos (Or.inl h24)]; done) | (rw [if_pos (Or.inr (hs ▸ h29))]; done) | (rw [if_neg (by rw [← hs]; omega)]; exact hs))
          · -- 29 F
            refine x_iload_n hC 0 rfl dX2_fewestBits_32 ?_
            refine x_istore_n hC [(1, .int (nI (pc (W i)))), (3, .int (nI (pc (W i)))), (0, .ref (a 2)), (2, .int (nI i))] rfl (lt_n hn rfl) dX2_fewestBits_33 ?_
            refine x_iinc hC (z := 1) (v := (nI (i + 1))) 3 rfl (nI_add i 1) [(2, .int (nI (i + 1))), (1, .int (nI (pc (W i)))), (3, .int (nI (pc (W i)))), (0, .ref (a 2))] rfl (lt_n hn rfl) dX2_fewestBits_34 ?_
            refine x_goto hC 4 dX2_fewestBits_37 rfl ?_
            refine x_lv [3, 1, 0] rfl ?_
            exact ih4 (pc (W i)) (i + 1) (by omega) (by omega) (by rw [fbx]; simp only [show i ≠ 0 by omega, if_false]; first | (rw [if_pos (Or.inl h24)]; done) | (rw [if_pos (Or.inr (hs ▸ h29))]; done) | (rw [if_neg (by rw [← hs]; omega)]; exact hs))
  exact L4 _ 0 1 (Nat.lt_succ_self _) (by omega) rfl
set_option maxHeartbeats 4000000 in
set_option maxRecDepth 100000 in
theorem c_X2_nearestKey {l : Launch} {D : va_G} {c : Nat → ClassId} {a : Nat → Nat} {μ : Me} {w k : Nat} {W : Nat → Nat} (h2 : μ 0 2 = nI k) (hk : k ≤ 6) (h11 : ∀ j, j < 2 ^ k → μ 11 j = nI (W j)) (hWb : ∀ j, j < 2 ^ k → W j < 16384) (hw : w < 16384) : KI l D (tyE c) (xw c a) yX2_nearestKey cX2_nearestKey 7 .int (rmL 2) [.ref (a 2), .int (nI w)] μ (fun r u => r = nI (amin (fun j => pc (W j ^^^ w)) (2 ^ k)) ∧ μ = u) := by
  refine x_enterI (by decide) (Nat.le_of_ble_eq_true rfl) (fun F hl hD hn hRm hC hR => ?_)
  subst hl hD
  change XW F 0 0 (xw c a μ) [(0, .ref (a 2)), (1, .int (nI w))] 0 []
  change FC F cX2_nearestKey RX2 (tyE c) at hC
  have hp := pow_le64 hk
  have hp1 : 1 ≤ 2 ^ k := Nat.one_le_two_pow
  refine x_iconst hC (v := (nI 0)) dX2_nearestKey_0 rfl ?_
  refine x_istore_n hC [(2, .int (nI 0)), (0, .ref (a 2)), (1, .int (nI w))] rfl (lt_n hn rfl) dX2_nearestKey_1 ?_
  refine x_aload_n hC 1 rfl dX2_nearestKey_2 ?_
  refine x_get hC fl_X2_13 dX2_nearestKey_3 2 rfl rfl ?_
  refine x_iconst hC (v := (nI 0)) dX2_nearestKey_6 rfl ?_
  refine x_iald hC 11 0 rfl rfl (y := (nI (W 0))) (by decide) (by decide) (h11 0 (by omega)) dX2_nearestKey_7 ?_
  refine x_iload_n hC 2 rfl dX2_nearestKey_8 ?_
  refine x_ixorE hC (z := (nI ((W 0) ^^^ w))) (nI_xor _ _) dX2_nearestKey_9 ?_
  refine x_callN hC cs_X2_21 (c_J6_bitCount_0f7a4 (w := ((W 0) ^^^ w))  (xor_lt14 (hWb 0 (by omega)) hw)) dX2_nearestKey_10 [] rfl (Nat.le_of_ble_eq_true rfl) rfl (rm_ok hRm (by decide) (by decide)) ?_
  refine x_istore_n hC [(3, .int (nI (pc ((W 0) ^^^ w)))), (2, .int (nI 0)), (0, .ref (a 2)), (1, .int (nI w))] rfl (lt_n hn rfl) dX2_nearestKey_13 ?_
  refine x_aload_n hC 2 rfl dX2_nearestKey_14 ?_
  refine x_callVI hC cw_X2_17 (c_X2_keys  (k := k) (by first | assumption | omega) (by first | assumption | omega)) dX2_nearestKey_15 [] rfl (Nat.le_of_ble_eq_true rfl) rfl (rm_ok hRm (by decide) (by decide)) 2 2 rfl rfl (fun r15 m15 hp15 => ?_)
  obtain ⟨rfl, rfl⟩ := hp15
  refine x_istore hC [(4, .int (nI (2 ^ k))), (3, .int (nI (pc ((W 0) ^^^ w)))), (2, .int (nI 0)), (0, .ref (a 2)), (1, .int (nI w))] rfl (lt_n hn rfl) dX2_nearestKey_18 ?_
  refine x_iconst hC (v := (nI 1)) dX2_nearestKey_20 rfl ?_
  refine x_istore hC [(5, .int (nI 1)), (4, .int (nI (2 ^ k))), (3, .int (nI (pc ((W 0) ^^^ w)))), (2, .int (nI 0)), (0, .ref (a 2)), (1, .int (nI w))] rfl (lt_n hn rfl) dX2_nearestKey_21 ?_
  refine x_lv [4, 5, 3, 2, 1, 0] rfl ?_
  have L23 : ∀ (N23 : Nat) (b : Nat) (fw : Nat) (i : Nat), 2 ^ k - i < N23 → (1 ≤ i ∧ i ≤ 2 ^ k) → (b = amin (fun j => pc (W j ^^^ w)) i) → (fw = pc (W b ^^^ w)) → XW F 0 0 (xw c a μ) [(0, .ref (a 2)), (1, .int (nI w)), (2, .int (nI b)), (3, .int (nI fw)), (4, .int (nI (2 ^ k))), (5, .int (nI i))] 23 [] := by
    intro N23
    induction N23 with
    | zero => intro b fw i hN23 hi hb hf; exact absurd hN23 (by omega)
    | succ N23 ih23 =>
      intro b fw i hN23 hi hb hf
      refine x_iload hC 5 rfl dX2_nearestKey_23 ?_
      refine x_iload hC 4 rfl dX2_nearestKey_25 ?_
      refine x_icmp_geN hC 62 dX2_nearestKey_27 rfl (by omega) (by omega) (fun h27 => ?_) (fun h27 => ?_)
      · -- 27 T
        refine x_iload_n hC 2 rfl dX2_nearestKey_62 ?_
        exact x_iret hC hR dX2_nearestKey_63 (⟨by rw [hb, show i = 2 ^ k by omega], rfl⟩)
      · -- 27 F
        refine x_aload_n hC 0 rfl dX2_nearestKey_30 ?_
        refine x_get hC fl_X2_13 dX2_nearestKey_31 2 rfl rfl ?_
        refine x_iload hC 5 rfl dX2_nearestKey_34 ?_
        refine x_iald hC 11 0 rfl rfl (y := (nI (W i))) (by omega) (by decide) (h11 i (by omega)) dX2_nearestKey_36 ?_
        refine x_iload_n hC 1 rfl dX2_nearestKey_37 ?_
        refine x_ixorE hC (z := (nI ((W i) ^^^ w))) (nI_xor _ _) dX2_nearestKey_38 ?_
        refine x_callN hC cs_X2_21 (c_J6_bitCount_0f7a4 (w := ((W i) ^^^ w))  (xor_lt14 (hWb i (by omega)) hw)) dX2_nearestKey_39 [] rfl (Nat.le_of_ble_eq_true rfl) rfl (rm_ok hRm (by decide) (by decide)) ?_
        refine x_istore hC [(6, .int (nI (pc ((W i) ^^^ w)))), (0, .ref (a 2)), (1, .int (nI w)), (2, .int (nI b)), (3, .int (nI fw)), (4, .int (nI (2 ^ k))), (5, .int (nI i))] rfl (lt_n hn rfl) dX2_nearestKey_42 ?_
        refine x_iload hC 0 rfl dX2_nearestKey_44 ?_
        refine x_iload_n hC 4 rfl dX2_nearestKey_46 ?_
        refine x_icmp_geN hC 56 dX2_nearestKey_47 rfl (by have := pc_le (W i ^^^ w); omega) (by have := pc_le (W b ^^^ w); omega) (fun h47 => ?_) (fun h47 => ?_)
        · -- 47 T
          refine x_iinc hC (z := 1) (v := (nI (i + 1))) 6 rfl (nI_add i 1) [(5, .int (nI (i + 1))), (6, .int (nI (pc ((W i) ^^^ w)))), (0, .ref (a 2)), (1, .int (nI w)), (2, .int (nI b)), (3, .int (nI fw)), (4, .int (nI (2 ^ k)))] rfl (lt_n hn rfl) dX2_nearestKey_56 ?_
          refine x_goto hC 23 dX2_nearestKey_59 rfl ?_
          refine x_lv [2, 3, 4, 5, 6, 0] rfl ?_
          exact ih23 b fw (i + 1) (by omega) (by omega) (by rw [amin_S, if_neg (by rw [← hb]; omega)]; exact hb) hf
        · -- 47 F
          refine x_iload hC 0 rfl dX2_nearestKey_50 ?_
          refine x_istore_n hC [(3, .int (nI (pc ((W i) ^^^ w)))), (6, .int (nI (pc ((W i) ^^^ w)))), (0, .ref (a 2)), (1, .int (nI w)), (2, .int (nI b)), (4, .int (nI (2 ^ k))), (5, .int (nI i))] rfl (lt_n hn rfl) dX2_nearestKey_52 ?_
          refine x_iload hC 6 rfl dX2_nearestKey_53 ?_
          refine x_istore_n hC [(2, .int (nI i)), (3, .int (nI (pc ((W i) ^^^ w)))), (6, .int (nI (pc ((W i) ^^^ w)))), (0, .ref (a 2)), (1, .int (nI w)), (4, .int (nI (2 ^ k))), (5, .int (nI i))] rfl (lt_n hn rfl) dX2_nearestKey_55 ?_
          refine x_iinc hC (z := 1) (v := (nI (i + 1))) 6 rfl (nI_add i 1) [(5, .int (nI (i + 1))), (2, .int (nI i)), (3, .int (nI (pc ((W i) ^^^ w)))), (6, .int (nI (pc ((W i) ^^^ w)))), (0, .ref (a 2)), (1, .int (nI w)), (4, .int (nI (2 ^ k)))] rfl (lt_n hn rfl) dX2_nearestKey_56 ?_
          refine x_goto hC 23 dX2_nearestKey_59 rfl ?_
          refine x_lv [4, 5, 1, 2, 6, 0] rfl ?_
          exact ih23 i (pc ((W i) ^^^ w)) (i + 1) (by omega) (by omega) (by rw [amin_S, if_pos (by rw [← hb]; omega)]) rfl
  exact L23 _ 0 (pc ((W 0) ^^^ w)) 1 (Nat.lt_succ_self _) (by omega) (by rw [amin_1]) rfl
set_option maxHeartbeats 4000000 in
set_option maxRecDepth 100000 in
theorem c_X2_hasOneNearest {l : Launch} {D : va_G} {c : Nat → ClassId} {a : Nat → Nat} {μ : Me} {w k : Nat} {W : Nat → Nat} (h2 : μ 0 2 = nI k) (hk : k ≤ 6) (h11 : ∀ j, j < 2 ^ k → μ 11 j = nI (W j)) (hWb : ∀ j, j < 2 ^ k → W j < 16384) (hw : w < 16384) : KI l D (tyE c) (xw c a) yX2_hasOneNearest cX2_hasOneNearest 5 .boolean (rmL 3) [.ref (a 2), .int (nI w)] μ (fun r u => r = bz (uq (fun j => pc (W j ^^^ w)) (2 ^ k)) ∧ μ = u) := by
  refine x_enterI (by decide) (Nat.le_of_ble_eq_true rfl) (fun F hl hD hn hRm hC hR => ?_)
  subst hl hD
  change XW F 0 0 (xw c a μ) [(0, .ref (a 2)), (1, .int (nI w))] 0 []
  change FC F cX2_hasOneNearest RX2 (tyE c) at hC
  have hp := pow_le64 hk
  have hp1 : 1 ≤ 2 ^ k := Nat.one_le_two_pow
  have hal := amin_lt (fun j => pc (W j ^^^ w)) (m := 2 ^ k) (by omega)
  refine x_aload_n hC 0 rfl dX2_hasOneNearest_0 ?_
  refine x_iload_n hC 1 rfl dX2_hasOneNearest_1 ?_
  refine x_callVI hC cw_X2_27 (c_X2_nearestKey (w := w) (k := k) (W := W) (by first | assumption | omega) (by first | assumption | omega) (by first | assumption | omega) (by first | assumption | omega) (by first | assumption | omega)) dX2_hasOneNearest_2 [] rfl (Nat.le_of_ble_eq_true rfl) rfl (rm_ok hRm (by decide) (by decide)) 2 2 rfl rfl (fun r2 m2 hp2 => ?_)
  obtain ⟨rfl, rfl⟩ := hp2
  refine x_istore_n hC [(2, .int (nI (amin (fun j => pc (W j ^^^ w)) (2 ^ k)))), (0, .ref (a 2)), (1, .int (nI w))] rfl (lt_n hn rfl) dX2_hasOneNearest_5 ?_
  refine x_aload_n hC 1 rfl dX2_hasOneNearest_6 ?_
  refine x_get hC fl_X2_13 dX2_hasOneNearest_7 2 rfl rfl ?_
  refine x_iload_n hC 0 rfl dX2_hasOneNearest_10 ?_
  refine x_iald hC 11 0 rfl rfl (y := (nI (W (amin (fun j => pc (W j ^^^ w)) (2 ^ k))))) (by omega) (by decide) (h11 (amin (fun j => pc (W j ^^^ w)) (2 ^ k)) (by omega)) dX2_hasOneNearest_11 ?_
  refine x_iload_n hC 2 rfl dX2_hasOneNearest_12 ?_
  refine x_ixorE hC (z := (nI ((W (amin (fun j => pc (W j ^^^ w)) (2 ^ k))) ^^^ w))) (nI_xor _ _) dX2_hasOneNearest_13 ?_
  refine x_callN hC cs_X2_21 (c_J6_bitCount_0f7a4 (w := ((W (amin (fun j => pc (W j ^^^ w)) (2 ^ k))) ^^^ w))  (xor_lt14 (hWb _ (by omega)) hw)) dX2_hasOneNearest_14 [] rfl (Nat.le_of_ble_eq_true rfl) rfl (rm_ok hRm (by decide) (by decide)) ?_
  refine x_istore_n hC [(3, .int (nI (pc ((W (amin (fun j => pc (W j ^^^ w)) (2 ^ k))) ^^^ w)))), (2, .int (nI (amin (fun j => pc (W j ^^^ w)) (2 ^ k)))), (0, .ref (a 2)), (1, .int (nI w))] rfl (lt_n hn rfl) dX2_hasOneNearest_17 ?_
  refine x_iload_n hC 1 rfl dX2_hasOneNearest_18 ?_
  refine x_iconst hC (v := (nI 1)) dX2_hasOneNearest_19 rfl ?_
  refine x_iaddE hC (z := (nI ((amin (fun j => pc (W j ^^^ w)) (2 ^ k)) + 1))) (nI_add _ _) dX2_hasOneNearest_20 ?_
  refine x_istore hC [(4, .int (nI ((amin (fun j => pc (W j ^^^ w)) (2 ^ k)) + 1))), (3, .int (nI (pc ((W (amin (fun j => pc (W j ^^^ w)) (2 ^ k))) ^^^ w)))), (2, .int (nI (amin (fun j => pc (W j ^^^ w)) (2 ^ k)))), (0, .ref (a 2)), (1, .int (nI w))] rfl (lt_n hn rfl) dX2_hasOneNearest_21 ?_
  refine x_lv [3, 4, 2, 1, 0] rfl ?_
  have L23 : ∀ (N23 : Nat) (i : Nat), 2 ^ k - i < N23 → (amin (fun j => pc (W j ^^^ w)) (2 ^ k) < i ∧ i ≤ 2 ^ k) → (∀ j, amin (fun j => pc (W j ^^^ w)) (2 ^ k) < j → j < i → pc (W j ^^^ w) ≠ pc (W (amin (fun j => pc (W j ^^^ w)) (2 ^ k)) ^^^ w)) → XW F 0 0 (xw c a μ) [(0, .ref (a 2)), (1, .int (nI w)), (2, .int (nI (amin (fun j => pc (W j ^^^ w)) (2 ^ k)))), (3, .int (nI (pc (W (amin (fun j => pc (W j ^^^ w)) (2 ^ k)) ^^^ w)))), (4, .int (nI i))] 23 [] := by
    intro N23
    induction N23 with
    | zero => intro i hN23 hi ha; exact absurd hN23 (by omega)
    | succ N23 ih23 =>
      intro i hN23 hi ha
      refine x_iload hC 4 rfl dX2_hasOneNearest_23 ?_
      refine x_aload_n hC 0 rfl dX2_hasOneNearest_25 ?_
      refine x_callVI hC cw_X2_17 (c_X2_keys  (k := k) (by first | assumption | omega) (by first | assumption | omega)) dX2_hasOneNearest_26 [.int (nI i)] rfl (Nat.le_of_ble_eq_true rfl) rfl (rm_ok hRm (by decide) (by decide)) 2 2 rfl rfl (fun r26 m26 hp26 => ?_)
      obtain ⟨rfl, rfl⟩ := hp26
      refine x_icmp_geN hC 56 dX2_hasOneNearest_29 rfl (by omega) (by omega) (fun h29 => ?_) (fun h29 => ?_)
      · -- 29 T
        refine x_iconst hC (v := (nI 1)) dX2_hasOneNearest_56 rfl ?_
        exact x_zret hC hR dX2_hasOneNearest_57 rfl (⟨by rw [(uq_iff (fun j => pc (W j ^^^ w)) (m := 2 ^ k) (by omega)).mpr (fun j q1 q2 => by have g1 := amin_le (fun j => pc (W j ^^^ w)) q1; rcases Nat.lt_trichotomy j (amin (fun j => pc (W j ^^^ w)) (2 ^ k)) with q | q | q; exact amin_first (fun j => pc (W j ^^^ w)) q; exact absurd q q2; have g2 := ha j q (by omega); omega)]; rfl, rfl⟩)
      · -- 29 F
        refine x_aload_n hC 0 rfl dX2_hasOneNearest_32 ?_
        refine x_get hC fl_X2_13 dX2_hasOneNearest_33 2 rfl rfl ?_
        refine x_iload hC 4 rfl dX2_hasOneNearest_36 ?_
        refine x_iald hC 11 0 rfl rfl (y := (nI (W i))) (by omega) (by decide) (h11 i (by omega)) dX2_hasOneNearest_38 ?_
        refine x_iload_n hC 1 rfl dX2_hasOneNearest_39 ?_
        refine x_ixorE hC (z := (nI ((W i) ^^^ w))) (nI_xor _ _) dX2_hasOneNearest_40 ?_
        refine x_callN hC cs_X2_21 (c_J6_bitCount_0f7a4 (w := ((W i) ^^^ w))  (xor_lt14 (hWb i (by omega)) hw)) dX2_hasOneNearest_41 [] rfl (Nat.le_of_ble_eq_true rfl) rfl (rm_ok hRm (by decide) (by decide)) ?_
        refine x_iload_n hC 3 rfl dX2_hasOneNearest_44 ?_
        refine x_icmp_neN hC 50 dX2_hasOneNearest_45 rfl (by have := pc_le (W i ^^^ w); omega) (by have := pc_le (W (amin (fun j => pc (W j ^^^ w)) (2 ^ k)) ^^^ w); omega) (fun h45 => ?_) (fun h45 => ?_)
        · -- 45 T
          refine x_iinc hC (z := 1) (v := (nI (i + 1))) 4 rfl (nI_add i 1) [(4, .int (nI (i + 1))), (0, .ref (a 2)), (1, .int (nI w)), (2, .int (nI (amin (fun j => pc (W j ^^^ w)) (2 ^ k)))), (3, .int (nI (pc (W (amin (fun j => pc (W j ^^^ w)) (2 ^ k)) ^^^ w))))] rfl (lt_n hn rfl) dX2_hasOneNearest_50 ?_
          refine x_goto hC 23 dX2_hasOneNearest_53 rfl ?_
          refine x_lv [1, 2, 3, 4, 0] rfl ?_
          exact ih23 (i + 1) (by omega) (by omega) (fun j q1 q2 => (Nat.lt_succ_iff_lt_or_eq.mp q2).elim (fun q => ha j q1 q) (fun q => q ▸ h45))
        · -- 45 F
          refine x_iconst hC (v := (nI 0)) dX2_hasOneNearest_48 rfl ?_
          exact x_zret hC hR dX2_hasOneNearest_49 rfl (⟨by rw [show uq (fun j => pc (W j ^^^ w)) (2 ^ k) = false from by cases hq : uq (fun j => pc (W j ^^^ w)) (2 ^ k) with | false => rfl | true => have := (uq_iff (fun j => pc (W j ^^^ w)) (by omega)).mp hq i (by omega) (by omega); omega]; rfl, rfl⟩)
  exact L23 _ ((amin (fun j => pc (W j ^^^ w)) (2 ^ k)) + 1) (Nat.lt_succ_self _) (by omega) (fun j h1 h2 => absurd h2 (by omega))
set_option maxHeartbeats 4000000 in
set_option maxRecDepth 100000 in
theorem c_X3_growTo {l : Launch} {D : va_G} {c : Nat → ClassId} {a : Nat → Nat} {μ : Me} {age n m : Nat} {ch we : Nat → Nat} (hn0 : μ 0 0 = nI n) (hm0 : μ 0 1 = nI m) (hb : n ≤ 14) (hmb : m < 2 ^ 31) (h8 : ∀ j, j < 14 → μ 8 j = nI (ch j)) (h9 : ∀ j, j < 14 → μ 9 j = nI (we j)) (hcb : ∀ j, j < 14 → ch j ≤ 4 ∧ we j ≤ 4) (ha : age ≤ 40) : KV l D (tyE c) (xw c a) yX3_growTo cX3_growTo 5 (rmL 3) [.ref (a 5), .int (nI age)] μ (fun u => ∃ f g, u = setc (setc μ 23 f) 24 g ∧ ∀ j, j < n → f j = nI (flp m (fun j => ag (ch j) (we j) age) j) ∧ g j = nI (sty m (fun j => ag (ch j) (we j) age) j)) := by
  refine x_enterV (by decide) (Nat.le_of_ble_eq_true rfl) (fun F hl hD hn hRm hC hR => ?_)
  subst hl hD
  change XW F 0 0 (xw c a μ) [(0, .ref (a 5)), (1, .int (nI age))] 0 []
  change FC F cX3_growTo RX3 (tyE c) at hC
  refine x_iconst hC (v := (nI 0)) dX3_growTo_0 rfl ?_
  refine x_istore_n hC [(2, .int (nI 0)), (0, .ref (a 5)), (1, .int (nI age))] rfl (lt_n hn rfl) dX3_growTo_1 ?_
  refine x_lv [1, 2, 0] rfl ?_
  have L2 : ∀ (N2 : Nat) (f : Nat → Int32) (g : Nat → Int32) (i : Nat), n - i < N2 → (i ≤ n) → (∀ j, j < i → f j = nI (flp m (fun j => ag (ch j) (we j) age) j) ∧ g j = nI (sty m (fun j => ag (ch j) (we j) age) j)) → XW F 0 0 (xw c a (setc (setc μ 23 f) 24 g)) [(0, .ref (a 5)), (1, .int (nI age)), (2, .int (nI i))] 2 [] := by
    intro N2
    induction N2 with
    | zero => intro f g i hN2 hi hf; exact absurd hN2 (by omega)
    | succ N2 ih2 =>
      intro f g i hN2 hi hf
      refine x_iload_n hC 2 rfl dX3_growTo_2 ?_
      refine x_aload_n hC 0 rfl dX3_growTo_3 ?_
      refine x_get hC fl_X3_20 dX3_growTo_4 5 rfl rfl ?_
      refine x_get hC fl_X3_49 dX3_growTo_7 1 rfl (v := .int (nI n)) (xv hn0) ?_
      refine x_icmp_geN hC 74 dX3_growTo_10 rfl (by omega) (by omega) (fun h10 => ?_) (fun h10 => ?_)
      · -- 10 T
        exact x_vret hC hR dX3_growTo_74 (⟨f, g, rfl, fun j h => hf j (by omega)⟩)
      · -- 10 F
        refine x_aload_n hC 0 rfl dX3_growTo_13 ?_
        refine x_get hC fl_X3_20 dX3_growTo_14 5 rfl rfl ?_
        refine x_iload_n hC 2 rfl dX3_growTo_17 ?_
        refine x_callVI hC cw_X3_53 (c_X0_isMasked (i := i) (m := m) hm0 hmb (by omega)) dX3_growTo_18 [] rfl (Nat.le_of_ble_eq_true rfl) rfl (rm_ok hRm (by decide) (by decide)) 0 1 rfl rfl (fun r18 m18 hp18 => ?_)
        obtain ⟨rfl, rfl⟩ := hp18
        refine x_istore_n hC [(3, .int (bz (decide (bt m i = 1)))), (0, .ref (a 5)), (1, .int (nI age)), (2, .int (nI i))] rfl (lt_n hn rfl) dX3_growTo_21 ?_
        refine x_aload_n hC 1 rfl dX3_growTo_22 ?_
        refine x_get hC fl_X3_20 dX3_growTo_23 5 rfl rfl ?_
        refine x_iload_n hC 3 rfl dX3_growTo_26 ?_
        refine x_iload_n hC 2 rfl dX3_growTo_27 ?_
        refine x_callVI hC cw_X3_56 (c_X0_agedChance (i := i) (age := age) (p := (ch i)) (q := (we i)) (h8 i (by omega)) (h9 i (by omega)) (by omega) (hcb i (by omega)).1 (hcb i (by omega)).2 ha) dX3_growTo_28 [] rfl (Nat.le_of_ble_eq_true rfl) rfl (rm_ok hRm (by decide) (by decide)) 0 1 rfl rfl (fun r28 m28 hp28 => ?_)
        obtain ⟨rfl, rfl⟩ := hp28
        refine x_istore hC [(4, .int (nI (ag (ch i) (we i) age))), (3, .int (bz (decide (bt m i = 1)))), (0, .ref (a 5)), (1, .int (nI age)), (2, .int (nI i))] rfl (lt_n hn rfl) dX3_growTo_31 ?_
        refine x_aload_n hC 2 rfl dX3_growTo_33 ?_
        refine x_get hC fl_X3_11 dX3_growTo_34 5 rfl rfl ?_
        refine x_iload_n hC 4 rfl dX3_growTo_37 ?_
        refine x_iload_n hC 1 rfl dX3_growTo_38 ?_
        refine x_if_eqB hC 46 dX3_growTo_39 rfl (fun h39 => ?_) (fun h39 => ?_)
        · -- 39 T
          replace h39 := of_decide_eq_false h39
          refine x_iload hC 0 rfl dX3_growTo_46 ?_
          refine x_iast hC 23 0 rfl rfl (by omega) (by decide) (xw c a (setc (setc μ 23 (upd f i (nI (ag (ch i) (we i) age)))) 24 g)) rfl dX3_growTo_48 ?_
          refine x_aload_n hC 2 rfl dX3_growTo_49 ?_
          refine x_get hC fl_X3_17 dX3_growTo_50 5 rfl rfl ?_
          refine x_iload_n hC 4 rfl dX3_growTo_53 ?_
          refine x_iload_n hC 1 rfl dX3_growTo_54 ?_
          refine x_if_eq_T hC 62 dX3_growTo_55 rfl (by simp [bz, h39]) ?_
          refine x_bipush hC (v := (nI 8)) dX3_growTo_62 rfl ?_
          refine x_iload hC 0 rfl dX3_growTo_64 ?_
          refine x_isubE hC (z := (nI (8 - (ag (ch i) (we i) age)))) (pk_sub (by unfold ag; omega)) dX3_growTo_66 ?_
          refine x_iast hC 24 0 rfl rfl (by omega) (by decide) (xw c a (setc (setc μ 23 (upd f i (nI (ag (ch i) (we i) age)))) 24 (upd g i (nI (8 - (ag (ch i) (we i) age)))))) rfl dX3_growTo_67 ?_
          refine x_iinc hC (z := 1) (v := (nI (i + 1))) 4 rfl (nI_add i 1) [(2, .int (nI (i + 1))), (4, .int (nI (ag (ch i) (we i) age))), (3, .int (bz (decide (bt m i = 1)))), (0, .ref (a 5)), (1, .int (nI age))] rfl (lt_n hn rfl) dX3_growTo_68 ?_
          refine x_goto hC 2 dX3_growTo_71 rfl ?_
          refine x_lv [3, 4, 0] rfl ?_
          exact ih2 (upd f i (nI (ag (ch i) (we i) age))) (upd g i (nI (8 - (ag (ch i) (we i) age)))) (i + 1) (by omega) (by omega) (upd_two (Q := fun j x y => x = nI (flp m (fun j => ag (ch j) (we j) age) j) ∧ y = nI (sty m (fun j => ag (ch j) (we j) age) j)) hf (by simp [flp, sty, h39]))
        · -- 39 F
          replace h39 := of_decide_eq_true h39
          refine x_iconst hC (v := (nI 0)) dX3_growTo_42 rfl ?_
          refine x_goto hC 48 dX3_growTo_43 rfl ?_
          refine x_iast hC 23 0 rfl rfl (by omega) (by decide) (xw c a (setc (setc μ 23 (upd f i (nI 0))) 24 g)) rfl dX3_growTo_48 ?_
          refine x_aload_n hC 2 rfl dX3_growTo_49 ?_
          refine x_get hC fl_X3_17 dX3_growTo_50 5 rfl rfl ?_
          refine x_iload_n hC 4 rfl dX3_growTo_53 ?_
          refine x_iload_n hC 1 rfl dX3_growTo_54 ?_
          refine x_if_eq_F hC 62 dX3_growTo_55 rfl (by simp [bz, h39]) ?_
          refine x_iconst hC (v := (nI 1)) dX3_growTo_58 rfl ?_
          refine x_goto hC 67 dX3_growTo_59 rfl ?_
          refine x_iast hC 24 0 rfl rfl (by omega) (by decide) (xw c a (setc (setc μ 23 (upd f i (nI 0))) 24 (upd g i (nI 1)))) rfl dX3_growTo_67 ?_
          refine x_iinc hC (z := 1) (v := (nI (i + 1))) 4 rfl (nI_add i 1) [(2, .int (nI (i + 1))), (4, .int (nI (ag (ch i) (we i) age))), (3, .int (bz (decide (bt m i = 1)))), (0, .ref (a 5)), (1, .int (nI age))] rfl (lt_n hn rfl) dX3_growTo_68 ?_
          refine x_goto hC 2 dX3_growTo_71 rfl ?_
          refine x_lv [3, 4, 0] rfl ?_
          exact ih2 (upd f i (nI 0)) (upd g i (nI 1)) (i + 1) (by omega) (by omega) (upd_two (Q := fun j x y => x = nI (flp m (fun j => ag (ch j) (we j) age) j) ∧ y = nI (sty m (fun j => ag (ch j) (we j) age) j)) hf (by simp [flp, sty, h39]))
  exact L2 _ (μ 23) (μ 24) 0 (Nat.lt_succ_self _) (by omega) (fun j h => absurd h (by omega))
set_option maxHeartbeats 4000000 in
set_option maxRecDepth 100000 in
theorem c_X3_harmless {l : Launch} {D : va_G} {c : Nat → ClassId} {a : Nat → Nat} {μ : Me} {n k key : Nat} {W fl sy : Nat → Nat} (hn0 : μ 0 0 = nI n) (hb : n ≤ 14) (h2 : μ 0 2 = nI k) (hk : k ≤ 6) (h11 : ∀ j, j < 2 ^ k → μ 11 j = nI (W j)) (hWb : ∀ j, j < 2 ^ k → W j < 16384) (h23 : ∀ j, j < n → μ 23 j = nI (fl j)) (h24 : ∀ j, j < n → μ 24 j = nI (sy j)) (hfb : ∀ j, j < n → fl j ≤ 8 ∧ sy j ≤ 8) (hkey : key < 2 ^ k) : ∀ (d cell w ways : Nat), cell + d = n → w < 16384 → KL l D (tyE c) (xw c a) yX3_harmless cX3_harmless 9 (rmL (3 + d)) [.ref (a 5), .int (nI key), .int (nI cell), .int (nI w), .long (lN ways)] μ (fun r u => r = lN (ways * hlx fl sy (fun v => amin (fun j => pc (W j ^^^ v)) (2 ^ k)) key n d w) ∧ μ = u) := by
  intro d
  induction d with
  | zero =>
    intro cell w ways hcd hw
    refine x_enterL (by decide) (Nat.le_of_ble_eq_true rfl) (fun F hl hD hn hRm hC hR => ?_)
    subst hl hD
    change XW F 0 0 (xw c a μ) [(0, .ref (a 5)), (1, .int (nI key)), (2, .int (nI cell)), (3, .int (nI w)), (4, .long (lN ways))] 0 []
    change FC F cX3_harmless RX3 (tyE c) at hC
    refine x_iload_n hC 2 rfl dX3_harmless_0 ?_
    refine x_aload_n hC 0 rfl dX3_harmless_1 ?_
    refine x_get hC fl_X3_20 dX3_harmless_2 5 rfl rfl ?_
    refine x_get hC fl_X3_49 dX3_harmless_5 1 rfl (v := .int (nI n)) (xv hn0) ?_
    refine x_icmp_ltN hC 14 dX3_harmless_8 rfl (by omega) (by omega) (fun h8 => ?_) (fun h8 => ?_)
    · -- 8 T
      exact absurd h8 (by omega)
    · -- 8 F
      refine x_lload hC 4 rfl dX3_harmless_11 ?_
      exact x_lret hC hR dX3_harmless_13 (⟨by rw [hlx, Nat.mul_one], rfl⟩)
  | succ d ih =>
    intro cell w ways hcd hw
    refine x_enterL (by decide) (Nat.le_of_ble_eq_true rfl) (fun F hl hD hn hRm hC hR => ?_)
    subst hl hD
    change XW F 0 0 (xw c a μ) [(0, .ref (a 5)), (1, .int (nI key)), (2, .int (nI cell)), (3, .int (nI w)), (4, .long (lN ways))] 0 []
    change FC F cX3_harmless RX3 (tyE c) at hC
    refine x_iload_n hC 2 rfl dX3_harmless_0 ?_
    refine x_aload_n hC 0 rfl dX3_harmless_1 ?_
    refine x_get hC fl_X3_20 dX3_harmless_2 5 rfl rfl ?_
    refine x_get hC fl_X3_49 dX3_harmless_5 1 rfl (v := .int (nI n)) (xv hn0) ?_
    refine x_icmp_ltN hC 14 dX3_harmless_8 rfl (by omega) (by omega) (fun h8 => ?_) (fun h8 => ?_)
    · -- 8 T
      have hfc := hfb cell (by omega)
      have hp := pow_le64 hk
      have hp1 : 1 ≤ 2 ^ k := Nat.one_le_two_pow
      have hnk := amin_lt (fun j => pc (W j ^^^ (w ^^^ 2 ^ cell))) (m := 2 ^ k) (by omega)
      refine x_aload_n hC 0 rfl dX3_harmless_14 ?_
      refine x_iload_n hC 1 rfl dX3_harmless_15 ?_
      refine x_iload_n hC 2 rfl dX3_harmless_16 ?_
      refine x_iconst hC (v := (nI 1)) dX3_harmless_17 rfl ?_
      refine x_iaddE hC (z := (nI (cell + 1))) (nI_add _ _) dX3_harmless_18 ?_
      refine x_iload_n hC 3 rfl dX3_harmless_19 ?_
      refine x_lload hC 4 rfl dX3_harmless_20 ?_
      refine x_aload_n hC 0 rfl dX3_harmless_22 ?_
      refine x_get hC fl_X3_17 dX3_harmless_23 5 rfl rfl ?_
      refine x_iload_n hC 2 rfl dX3_harmless_26 ?_
      refine x_iald hC 24 0 rfl rfl (y := (nI (sy cell))) (by omega) (by decide) (h24 cell (by omega)) dX3_harmless_27 ?_
      refine x_i2l hC (v := (lN (sy cell))) (nI_l (by omega)) dX3_harmless_28 ?_
      refine x_lmulE hC (z := (lN (ways * (sy cell)))) (lN_mul _ _) dX3_harmless_29 ?_
      refine x_callSL hC cs_X3_45 (w := xw c a) (m0 := μ) (ih (cell + 1) w (ways * sy cell) (by omega) hw) dX3_harmless_30 [] rfl (Nat.le_of_ble_eq_true rfl) rfl (rm_ok hRm (by omega) (by decide)) (fun r30 m30 hp30 => ?_)
      obtain ⟨rfl, rfl⟩ := hp30
      refine x_lstore hC [(6, .long (lN (ways * sy cell * hlx fl sy (fun v => amin (fun j => pc (W j ^^^ v)) (2 ^ k)) key n d w))), (0, .ref (a 5)), (1, .int (nI key)), (2, .int (nI cell)), (3, .int (nI w)), (4, .long (lN ways))] rfl (lt_n hn rfl) dX3_harmless_33 ?_
      have hw2 : w ^^^ 2 ^ cell < 16384 := xor_lt14 hw (pow_lt14 (by omega))
      refine x_iload_n hC 4 rfl dX3_harmless_35 ?_
      refine x_iconst hC (v := (nI 1)) dX3_harmless_36 rfl ?_
      refine x_iload_n hC 3 rfl dX3_harmless_37 ?_
      refine x_ishlE hC (z := (nI (2 ^ cell))) (nI_shl1 (by omega)) dX3_harmless_38 ?_
      refine x_ixorE hC (z := (nI (w ^^^ (2 ^ cell)))) (nI_xor _ _) dX3_harmless_39 ?_
      refine x_istore hC [(8, .int (nI (w ^^^ (2 ^ cell)))), (6, .long (lN (ways * sy cell * hlx fl sy (fun v => amin (fun j => pc (W j ^^^ v)) (2 ^ k)) key n d w))), (0, .ref (a 5)), (1, .int (nI key)), (2, .int (nI cell)), (3, .int (nI w)), (4, .long (lN ways))] rfl (lt_n hn rfl) dX3_harmless_40 ?_
      refine x_aload_n hC 2 rfl dX3_harmless_42 ?_
      refine x_get hC fl_X3_11 dX3_harmless_43 5 rfl rfl ?_
      refine x_iload_n hC 4 rfl dX3_harmless_46 ?_
      refine x_iald hC 23 0 rfl rfl (y := (nI (fl cell))) (by omega) (by decide) (h23 cell (by omega)) dX3_harmless_47 ?_
      refine x_if_leN hC 89 dX3_harmless_48 rfl (by omega) (fun h48 => ?_) (fun h48 => ?_)
      · -- 48 T
        refine x_lload hC 1 rfl dX3_harmless_89 ?_
        exact x_lret hC hR dX3_harmless_91 (⟨congrArg lN (by rw [hlx, show n - (d + 1) = cell by omega, if_neg (by omega)]; simp only [Nat.mul_add, Nat.mul_assoc, Nat.add_zero]), rfl⟩)
      · -- 48 F
        refine x_aload_n hC 2 rfl dX3_harmless_51 ?_
        refine x_get hC fl_X3_24 dX3_harmless_52 5 rfl rfl ?_
        refine x_iload hC 0 rfl dX3_harmless_55 ?_
        refine x_callVI hC cw_X3_60 (c_X2_nearestKey (w := (w ^^^ (2 ^ cell))) (k := k) (W := W) h2 hk h11 hWb hw2) dX3_harmless_57 [] rfl (Nat.le_of_ble_eq_true rfl) rfl (rm_ok hRm (by omega) (by decide)) 2 2 rfl rfl (fun r57 m57 hp57 => ?_)
        obtain ⟨rfl, rfl⟩ := hp57
        refine x_iload_n hC 3 rfl dX3_harmless_60 ?_
        refine x_icmp_neN hC 89 dX3_harmless_61 rfl (by omega) (by omega) (fun h61 => ?_) (fun h61 => ?_)
        · -- 61 T
          refine x_lload hC 1 rfl dX3_harmless_89 ?_
          exact x_lret hC hR dX3_harmless_91 (⟨congrArg lN (by rw [hlx, show n - (d + 1) = cell by omega, if_neg (fun q => h61 q.2)]; simp only [Nat.mul_add, Nat.mul_assoc, Nat.add_zero]), rfl⟩)
        · -- 61 F
          refine x_lload hC 1 rfl dX3_harmless_64 ?_
          refine x_aload_n hC 2 rfl dX3_harmless_66 ?_
          refine x_iload_n hC 3 rfl dX3_harmless_67 ?_
          refine x_iload_n hC 4 rfl dX3_harmless_68 ?_
          refine x_iconst hC (v := (nI 1)) dX3_harmless_69 rfl ?_
          refine x_iaddE hC (z := (nI (cell + 1))) (nI_add _ _) dX3_harmless_70 ?_
          refine x_iload hC 0 rfl dX3_harmless_71 ?_
          refine x_lload hC 6 rfl dX3_harmless_73 ?_
          refine x_aload_n hC 2 rfl dX3_harmless_75 ?_
          refine x_get hC fl_X3_11 dX3_harmless_76 5 rfl rfl ?_
          refine x_iload_n hC 4 rfl dX3_harmless_79 ?_
          refine x_iald hC 23 0 rfl rfl (y := (nI (fl cell))) (by omega) (by decide) (h23 cell (by omega)) dX3_harmless_80 ?_
          refine x_i2l hC (v := (lN (fl cell))) (nI_l (by omega)) dX3_harmless_81 ?_
          refine x_lmulE hC (z := (lN (ways * (fl cell)))) (lN_mul _ _) dX3_harmless_82 ?_
          refine x_callSL hC cs_X3_45 (w := xw c a) (m0 := μ) (ih (cell + 1) (w ^^^ 2 ^ cell) (ways * fl cell) (by omega) hw2) dX3_harmless_83 [.long (lN (ways * sy cell * hlx fl sy (fun v => amin (fun j => pc (W j ^^^ v)) (2 ^ k)) key n d w))] rfl (Nat.le_of_ble_eq_true rfl) rfl (rm_ok hRm (by omega) (by decide)) (fun r83 m83 hp83 => ?_)
          obtain ⟨rfl, rfl⟩ := hp83
          refine x_laddE hC (z := (lN ((ways * sy cell * hlx fl sy (fun v => amin (fun j => pc (W j ^^^ v)) (2 ^ k)) key n d w) + (ways * fl cell * hlx fl sy (fun v => amin (fun j => pc (W j ^^^ v)) (2 ^ k)) key n d (w ^^^ 2 ^ cell))))) (lN_add _ _) dX3_harmless_86 ?_
          refine x_lstore hC [(6, .long (lN ((ways * sy cell * hlx fl sy (fun v => amin (fun j => pc (W j ^^^ v)) (2 ^ k)) key n d w) + (ways * fl cell * hlx fl sy (fun v => amin (fun j => pc (W j ^^^ v)) (2 ^ k)) key n d (w ^^^ 2 ^ cell))))), (8, .int (nI (w ^^^ (2 ^ cell)))), (0, .ref (a 5)), (1, .int (nI key)), (2, .int (nI cell)), (3, .int (nI w)), (4, .long (lN ways))] rfl (lt_n hn rfl) dX3_harmless_87 ?_
          refine x_lload hC 0 rfl dX3_harmless_89 ?_
          exact x_lret hC hR dX3_harmless_91 (⟨congrArg lN (by rw [hlx, show n - (d + 1) = cell by omega, if_pos ⟨h48, h61⟩]; simp only [Nat.mul_add, Nat.mul_assoc, Nat.add_zero]), rfl⟩)
    · -- 8 F
      exact absurd h8 (by omega)
set_option maxHeartbeats 4000000 in
set_option maxRecDepth 100000 in
theorem c_X3_harmful {l : Launch} {D : va_G} {c : Nat → ClassId} {a : Nat → Nat} {μ : Me} {key age n m k : Nat} {ch we W : Nat → Nat} (hn0 : μ 0 0 = nI n) (hm0 : μ 0 1 = nI m) (hb : n ≤ 14) (hmb : m < 2 ^ 31) (h8 : ∀ j, j < 14 → μ 8 j = nI (ch j)) (h9 : ∀ j, j < 14 → μ 9 j = nI (we j)) (hcb : ∀ j, j < 14 → ch j ≤ 4 ∧ we j ≤ 4) (ha : age ≤ 40) (h2 : μ 0 2 = nI k) (hk : k ≤ 6) (h11 : ∀ j, j < 2 ^ k → μ 11 j = nI (W j)) (hWb : ∀ j, j < 2 ^ k → W j < 16384) (hkey : key < 2 ^ k) : KL l D (tyE c) (xw c a) yX3_harmful cX3_harmful 4 (rmL 41) [.ref (a 5), .int (nI key), .int (nI age)] μ (fun r u => r = lN (2 ^ (3 * pc (nd (2 ^ n - 1) m))) - lN (1 * hlx (flp m (fun j => ag (ch j) (we j) age)) (sty m (fun j => ag (ch j) (we j) age)) (fun v => amin (fun j => pc (W j ^^^ v)) (2 ^ k)) key n n (W key)) ∧ ∃ f g, u = setc (setc μ 23 f) 24 g) := by
  refine x_enterL (by decide) (Nat.le_of_ble_eq_true rfl) (fun F hl hD hn hRm hC hR => ?_)
  subst hl hD
  change XW F 0 0 (xw c a μ) [(0, .ref (a 5)), (1, .int (nI key)), (2, .int (nI age))] 0 []
  change FC F cX3_harmful RX3 (tyE c) at hC
  have hp := pow_le64 hk
  refine x_aload_n hC 0 rfl dX3_harmful_0 ?_
  refine x_iload_n hC 2 rfl dX3_harmful_1 ?_
  refine x_callVV hC cw_X3_28 (c_X3_growTo (age := age) (n := n) (m := m) (ch := ch) (we := we) (by first | assumption | omega) (by first | assumption | omega) (by first | assumption | omega) (by first | assumption | omega) (by first | assumption | omega) (by first | assumption | omega) (by first | assumption | omega) (by first | assumption | omega)) dX3_harmful_2 [] rfl (Nat.le_of_ble_eq_true rfl) rfl (rm_ok hRm (by decide) (by decide)) 3 5 rfl rfl (fun m2 hp2 => ?_)
  obtain ⟨f, g, rfl, hfg⟩ := hp2
  refine x_aload_n hC 0 rfl dX3_harmful_5 ?_
  refine x_get hC fl_X3_24 dX3_harmful_6 5 rfl rfl ?_
  refine x_iload_n hC 1 rfl dX3_harmful_9 ?_
  refine x_callVI hC cw_X3_32 (c_X2_isKey (x := (nI key)) (k := k) (by first | assumption | omega) (by first | assumption | omega)) dX3_harmful_10 [] rfl (Nat.le_of_ble_eq_true rfl) rfl (rm_ok hRm (by decide) (by decide)) 2 2 rfl rfl (fun r10 m10 hp10 => ?_)
  obtain ⟨rfl, rfl⟩ := hp10
  refine x_if_eq_F hC 28 dX3_harmful_13 rfl (by rw [isI_in (by omega) hkey]; decide) ?_
  refine x_aload_n hC 0 rfl dX3_harmful_16 ?_
  refine x_get hC fl_X3_24 dX3_harmful_17 5 rfl rfl ?_
  refine x_get hC fl_X3_38 dX3_harmful_20 2 rfl rfl ?_
  refine x_iload_n hC 1 rfl dX3_harmful_23 ?_
  refine x_iald hC 11 0 rfl rfl (y := (nI (W key))) (by omega) (by decide) (h11 key (by omega)) dX3_harmful_24 ?_
  refine x_goto hC 29 dX3_harmful_25 rfl ?_
  refine x_istore_n hC [(3, .int (nI (W key))), (0, .ref (a 5)), (1, .int (nI key)), (2, .int (nI age))] rfl (lt_n hn rfl) dX3_harmful_29 ?_
  refine x_aload_n hC 1 rfl dX3_harmful_30 ?_
  refine x_get hC fl_X3_20 dX3_harmful_31 5 rfl rfl ?_
  refine x_callVL hC cw_X3_41 (c_X0_allWays  (n := n) (m := m) (by first | assumption | omega) (by first | assumption | omega) (by first | assumption | omega)) dX3_harmful_34 [] rfl (Nat.le_of_ble_eq_true rfl) rfl (rm_ok hRm (by decide) (by decide)) 0 1 rfl rfl (fun r34 m34 hp34 => ?_)
  obtain ⟨rfl, rfl⟩ := hp34
  refine x_aload_n hC 1 rfl dX3_harmful_37 ?_
  refine x_iload_n hC 2 rfl dX3_harmful_38 ?_
  refine x_iconst hC (v := (nI 0)) dX3_harmful_39 rfl ?_
  refine x_iload_n hC 0 rfl dX3_harmful_40 ?_
  refine x_lconst hC (v := lN 1) dX3_harmful_41 rfl ?_
  refine x_callSL hC cs_X3_45 (w := xw c a) (m0 := (setc (setc μ 23 f) 24 g)) (c_X3_harmless (μ := (setc (setc μ 23 f) 24 g)) (W := W) (fl := (flp m (fun j => ag (ch j) (we j) age))) (sy := (sty m (fun j => ag (ch j) (we j) age))) hn0 hb h2 hk h11 hWb (fun j h => (hfg j h).1) (fun j h => (hfg j h).2) (fun j h => by simp only [flp, sty, ag]; split <;> omega) hkey n 0 (W key) 1 (by omega) (hWb key hkey)) dX3_harmful_42 [.long (lN (2 ^ (3 * pc (nd (2 ^ n - 1) m))))] rfl (Nat.le_of_ble_eq_true rfl) rfl (rm_ok hRm (by omega) (by decide)) (fun r42 m42 hp42 => ?_)
  obtain ⟨rfl, rfl⟩ := hp42
  refine x_lsubE hC (z := ((lN (2 ^ (3 * pc (nd (2 ^ n - 1) m)))) - (lN (1 * hlx (flp m (fun j => ag (ch j) (we j) age)) (sty m (fun j => ag (ch j) (we j) age)) (fun v => amin (fun j => pc (W j ^^^ v)) (2 ^ k)) key n n (W key))))) (rfl) dX3_harmful_45 ?_
  exact x_lret hC hR dX3_harmful_46 (⟨rfl, f, g, rfl⟩)
