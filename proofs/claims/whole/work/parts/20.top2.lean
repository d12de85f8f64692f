theorem or_bit {s b : Nat} (h : b < 2) : s * 2 ^ 1 ||| b = 2 * s + b := by
  have := Nat.two_pow_add_eq_or_of_lt (i := 1) (b := b) h s
  rw [Nat.mul_comm s]
  omega
theorem evx_b (m w : Nat) : ∀ c : Nat, c ≤ 14 → 1 ≤ evx m w c ∧ evx m w c < 2 ^ (oc m c / 2 + 1)
  | 0, _ => by simp [evx, oc]
  | c + 1, h => by
    have ih := evx_b m w c (by omega)
    have hp : 2 ^ (oc m c / 2 + 1) ≤ 2 ^ (oc m (c + 1) / 2 + 1) := Nat.pow_le_pow_right (by decide) (by simp only [oc]; split <;> omega)
    simp only [evx]
    split
    · rename_i hq
      have h1 := pc_oc m (c := c) (by omega)
      rw [h1] at hq
      have h2 : oc m (c + 1) / 2 + 1 = oc m c / 2 + 1 + 1 := by simp only [oc]; rw [if_neg hq.1]; omega
      have h3 := bt_lt w (mt m c)
      rw [or_bit h3, h2, Nat.pow_succ]
      omega
    · omega
theorem oc_le (m : Nat) : ∀ c, oc m c ≤ c
  | 0 => Nat.le_refl _
  | c + 1 => by
    have := oc_le m c
    simp only [oc]
    split <;> omega
theorem evS_b {S : SS} (hV : SV S) (w : Nat) : 1 ≤ evS S w ∧ evS S w < 256 := by
  have h1 := evx_b (S 0 1) w (S 0 0) hV.n2
  have h2 := oc_le (S 0 1) (S 0 0)
  have h3 := hV.n2
  have h4 : 2 ^ (oc (S 0 1) (S 0 0) / 2 + 1) ≤ 2 ^ 8 := Nat.pow_le_pow_right (by decide) (by omega)
  unfold evS
  omega
theorem wyx_le2 {m : Nat} {le : Nat → Nat} {w n : Nat} (h : ∀ j, j < n → le j ≤ 8) : ∀ i, i ≤ n → wyx m le w i ≤ 8 ^ i
  | 0, _ => Nat.le_refl _
  | i + 1, hi => by
    have h1 := wyx_le2 (m := m) (w := w) h i (by omega)
    have h2 := h i (by omega)
    simp only [wyx]
    rw [Nat.pow_succ]
    split
    · have : 8 ^ i * 1 ≤ 8 ^ i * 8 := Nat.mul_le_mul_left _ (by omega)
      omega
    · exact Nat.mul_le_mul h1 (by split <;> omega)
theorem wt_b {S : SS} (hV : SV S) (w : Nat) : wt S w < 2 ^ 63 := by
  have h1 := wyx_le2 (m := S 0 1) (le := S 4) (w := w) (n := S 0 0) (fun j hj => by have := (hV.told j (by have := hV.n2; omega)).2.2.2; omega) (S 0 0) (Nat.le_refl _)
  have h2 : 8 ^ S 0 0 ≤ 8 ^ 14 := Nat.pow_le_pow_right (by decide) hV.n2
  have h3 : (8 : Nat) ^ 14 < 2 ^ 63 := by decide
  unfold wt
  omega
theorem harm_eq {S : SS} (hV : SV S) (key age : Nat) : lN (2 ^ (3 * pc (nd (2 ^ S 0 0 - 1) (S 0 1)))) - lN (1 * hlx (flp (S 0 1) (fun j => ag (S 2 j) (S 3 j) age)) (sty (S 0 1) (fun j => ag (S 2 j) (S 3 j) age)) (fun v => amin (fun j => pc (cw S j ^^^ v)) (2 ^ S 0 2)) key (S 0 0) (S 0 0) (cw S key)) = lN (failS S key age) := by
  rw [Nat.one_mul]
  exact lN_sub (hls_le hV key age)
theorem bin_end {p : Nat → Bool} {l h : Nat} (hl : h ≤ l) (hlh : l ≤ h) (hh : h ≤ 40) (hp : p h = true) (hlo : ∀ i, i < l → p i = false) : ff p 41 = l := by
  have e : l = h := by omega
  subst e
  rw [show 41 = l + 1 + (40 - l) by omega]
  exact ff_at hlo hp
section Sw
variable {F : FX} {cc : ByteArray} {own : String} {tys : List (ClassId × FieldType)} {k n : Nat} {wd : va_W} {lv : List (Nat × Value)} {pc : Nat} {st : List Value}
theorem x_tableIn (h : FC F cc own tys) {dflt lo hi : Int} {offs : Array Int} {len : Nat} {x : Int32} {off : Int} (t : Nat) (d : decode cc pc = .ok (.tableswitch dflt lo hi offs, len)) (h1 : ¬ x.toInt < lo) (h2 : ¬ hi < x.toInt) (ho : offs[(x.toInt - lo).toNat]? = some off) (ht : (pc : Int) + off = (t : Int)) (g : XW F k n wd lv t st) : XW F k n wd lv pc (.int x :: st) := fun H L ls hP hD hS hl => lv_tableIn h.1 h.2.1 d h1 h2 ho ht (g H L ls hP hD hS hl)
theorem x_tableOut (h : FC F cc own tys) {dflt lo hi : Int} {offs : Array Int} {len : Nat} {x : Int32} (t : Nat) (d : decode cc pc = .ok (.tableswitch dflt lo hi offs, len)) (h1 : x.toInt < lo ∨ hi < x.toInt) (ht : (pc : Int) + dflt = (t : Int)) (g : XW F k n wd lv t st) : XW F k n wd lv pc (.int x :: st) := fun H L ls hP hD hS hl => lv_tableOut h.1 h.2.1 d h1 ht (g H L ls hP hD hS hl)
end Sw
theorem isI_out {n : Nat} {x : Int32} (h : isI n x = false) : x.toInt < 0 ∨ (n : Int) ≤ x.toInt := by
  simp only [isI, Bool.and_eq_false_iff, decide_eq_false_iff_not] at h
  omega
theorem ct_low {S : SS} {x : Int32} (ho : x.toInt < 0 ∨ ((8 : Nat) : Int) ≤ x.toInt) (h : x ≤ nI 10) : ((if isI 17 x = true then ctS S (tn x) else zI (-9)), S) = (zI (-9), S) := by
  rw [i32_le, nI_toI (by decide)] at h
  by_cases q : isI 17 x = true
  · rw [if_pos q]
    obtain ⟨v, hv, rfl⟩ := isI_T q
    rw [nI_toI (by omega)] at h ho
    rw [tn_nI (by omega)]
    rcases (show v = 8 ∨ v = 9 ∨ v = 10 by omega) with rfl | rfl | rfl <;> rfl
  · rw [if_neg q]
theorem cnt_rng {x : Int32} (h1 : ¬ x ≤ nI 10) (h2 : ¬ nI 17 ≤ x) : ∃ v : Nat, 11 ≤ v ∧ v ≤ 16 ∧ x = nI v := by
  refine rng (lo := 11) (hi := 16) (by decide) (by decide) ?_ ?_
  · rw [i32_lt, nI_toI (by decide)]
    rw [i32_le, nI_toI (by decide)] at h1
    omega
  · rw [i32_lt, nI_toI (by decide)]
    rw [i32_le, nI_toI (by decide)] at h2
    omega

set_option maxHeartbeats 4000000 in
set_option maxRecDepth 100000 in
theorem c_X5_all {l : Launch} {D : va_G} {c : Nat → ClassId} {a : Nat → Nat} {μ : Me} {S : SS} (hI : XI μ S) (hV : SV S) : KL l D (tyE c) (xw c a) yX5_all cX5_all 1 (rmL 5) [.ref (a 0)] μ (fun r u => r = sp_all S ∧ μ = u) := by
  refine x_enterL (by decide) (Nat.le_of_ble_eq_true rfl) (fun F hl hD hn hRm hC hR => ?_)
  subst hl hD
  change XW F 0 0 (xw c a μ) [(0, .ref (a 0))] 0 []
  change FC F cX5_all RX5 (tyE c) at hC
  have hn1 := hV.n1
  have hn2 := hV.n2
  have hpn := hV.pn
  have hk6 := hV.k
  have hpk := hV.pk
  have hpk1 := SV.pk1 S
  have hch8 := hV.chips
  have hmk := hV.mask
  have hmk31 : S 0 1 < 2 ^ 31 := by omega
  refine x_aload_n hC 0 rfl dX5_all_0 ?_
  refine x_get hC fl_X5_10 dX5_all_1 0 rfl rfl ?_
  refine x_callVL hC cw_X5_171 (c_X0_allWays  (n := (S 0 0)) (m := (S 0 1)) (by first | assumption | exact hI.n | exact hI.mask | exact hI.k | exact hI.chips | omega) (by first | assumption | exact hI.n | exact hI.mask | exact hI.k | exact hI.chips | omega) (by first | assumption | exact hI.n | exact hI.mask | exact hI.k | exact hI.chips | omega)) dX5_all_4 [] rfl (Nat.le_of_ble_eq_true rfl) rfl (rm_ok hRm (by decide) (by decide)) 0 1 rfl rfl (fun r4 m4 hp4 => ?_)
  obtain ⟨rfl, rfl⟩ := hp4
  exact x_lret hC hR dX5_all_7 (⟨rfl, rfl⟩)
set_option maxHeartbeats 4000000 in
set_option maxRecDepth 100000 in
theorem c_X5_even {l : Launch} {D : va_G} {c : Nat → ClassId} {a : Nat → Nat} {μ : Me} {x : Int32} {t : Int32} {S : SS} (hI : XI μ S) (hV : SV S) : KI l D (tyE c) (xw c a) yX5_even cX5_even 5 .int (rmL 4) [.ref (a 0), .int x, .int t] μ (fun r u => r = (sp_even S x t).1 ∧ XI u (sp_even S x t).2) := by
  refine x_enterI (by decide) (Nat.le_of_ble_eq_true rfl) (fun F hl hD hn hRm hC hR => ?_)
  subst hl hD
  change XW F 0 0 (xw c a μ) [(0, .ref (a 0)), (1, .int x), (2, .int t)] 0 []
  change FC F cX5_even RX5 (tyE c) at hC
  have hn1 := hV.n1
  have hn2 := hV.n2
  have hpn := hV.pn
  have hk6 := hV.k
  have hpk := hV.pk
  have hpk1 := SV.pk1 S
  have hch8 := hV.chips
  have hmk := hV.mask
  have hmk31 : S 0 1 < 2 ^ 31 := by omega
  refine x_aload_n hC 0 rfl dX5_even_0 ?_
  refine x_get hC fl_X5_10 dX5_even_1 0 rfl rfl ?_
  refine x_iload_n hC 1 rfl dX5_even_4 ?_
  refine x_callVI hC cw_X5_67 (c_X0_isWord (x := x) (n := (S 0 0)) (by first | assumption | exact hI.n | exact hI.mask | exact hI.k | exact hI.chips | omega) (by first | assumption | exact hI.n | exact hI.mask | exact hI.k | exact hI.chips | omega)) dX5_even_5 [] rfl (Nat.le_of_ble_eq_true rfl) rfl (rm_ok hRm (by decide) (by decide)) 0 1 rfl rfl (fun r5 m5 hp5 => ?_)
  obtain ⟨rfl, rfl⟩ := hp5
  refine x_if_neB hC 17 dX5_even_8 rfl (fun h8 => ?_) (fun h8 => ?_)
  · -- 8 T
    obtain ⟨v, hv, rfl⟩ := isI_T h8
    have tv := tn_nI (v := v) (by omega)
    refine x_iload_n hC 2 rfl dX5_even_17 ?_
    refine x_if_eq hC 33 dX5_even_18 rfl (fun h18 => ?_) (fun h18 => ?_)
    · -- 18 T
      subst h18
      have g18 : isI 2 (0 : Int32) = true := by decide
      have tt : tn (0 : Int32) = 0 := by decide
      have hev := evS_b hV v
      refine x_aload_n hC 0 rfl dX5_even_33 ?_
      refine x_get hC fl_X5_10 dX5_even_34 0 rfl rfl ?_
      refine x_iload_n hC 1 rfl dX5_even_37 ?_
      refine x_callVI hC cw_X5_193 (c_X0_evenBitsLedByOne (w := v) (n := (S 0 0)) (m := (S 0 1)) (by first | assumption | exact hI.n | exact hI.mask | exact hI.k | exact hI.chips | omega) (by first | assumption | exact hI.n | exact hI.mask | exact hI.k | exact hI.chips | omega) (by first | assumption | exact hI.n | exact hI.mask | exact hI.k | exact hI.chips | omega) (by first | assumption | exact hI.n | exact hI.mask | exact hI.k | exact hI.chips | omega) (by first | assumption | exact hI.n | exact hI.mask | exact hI.k | exact hI.chips | omega)) dX5_even_38 [] rfl (Nat.le_of_ble_eq_true rfl) rfl (rm_ok hRm (by decide) (by decide)) 0 1 rfl rfl (fun r38 m38 hp38 => ?_)
      obtain ⟨rfl, rfl⟩ := hp38
      refine x_istore_n hC [(3, .int (nI (evx (S 0 1) v (S 0 0)))), (0, .ref (a 0)), (1, .int (nI v)), (2, .int (nI 0))] rfl (lt_n hn rfl) dX5_even_41 ?_
      refine x_iload_n hC 0 rfl dX5_even_42 ?_
      refine x_callN hC cs_X5_196 (c_J6_highestOneBit_0f7a4 (v := (evx (S 0 1) v (S 0 0)))  (show 0 < evS S v by omega) (show evS S v < 16384 by omega)) dX5_even_43 [] rfl (Nat.le_of_ble_eq_true rfl) rfl (rm_ok hRm (by decide) (by decide)) ?_
      refine x_istore hC [(4, .int (nI (2 ^ Nat.log2 (evx (S 0 1) v (S 0 0))))), (3, .int (nI (evx (S 0 1) v (S 0 0)))), (0, .ref (a 0)), (1, .int (nI v)), (2, .int (nI 0))] rfl (lt_n hn rfl) dX5_even_46 ?_
      refine x_iload_n hC 4 rfl dX5_even_48 ?_
      refine x_if_ne_F hC 60 dX5_even_49 rfl (by decide) ?_
      refine x_iload hC 0 rfl dX5_even_52 ?_
      refine x_callN hC cs_X5_201 (c_J6_numberOfTrailingZeros_0f7a4 (w := (2 ^ Nat.log2 (evx (S 0 1) v (S 0 0)))) (k := (Nat.log2 (evS S v))) rfl (log2_lt (k := 8) (by omega) (by omega))) dX5_even_54 [] rfl (Nat.le_of_ble_eq_true rfl) rfl (rm_ok hRm (by decide) (by decide)) ?_
      refine x_goto hC 64 dX5_even_57 rfl ?_
      exact x_iret hC hR dX5_even_64 (sp_leaf (by simp [sp_even, h8, g18, tv, tt, evS]) (hI))
    · -- 18 F
      refine x_iload_n hC 2 rfl dX5_even_21 ?_
      refine x_iconst hC (v := (nI 1)) dX5_even_22 rfl ?_
      refine x_icmp_eq hC 33 dX5_even_23 rfl (fun h23 => ?_) (fun h23 => ?_)
      · -- 23 T
        subst h23
        have g23 : isI 2 (nI 1) = true := by decide
        have tt : tn (nI 1) = 1 := by decide
        have hev := evS_b hV v
        refine x_aload_n hC 0 rfl dX5_even_33 ?_
        refine x_get hC fl_X5_10 dX5_even_34 0 rfl rfl ?_
        refine x_iload_n hC 1 rfl dX5_even_37 ?_
        refine x_callVI hC cw_X5_193 (c_X0_evenBitsLedByOne (w := v) (n := (S 0 0)) (m := (S 0 1)) (by first | assumption | exact hI.n | exact hI.mask | exact hI.k | exact hI.chips | omega) (by first | assumption | exact hI.n | exact hI.mask | exact hI.k | exact hI.chips | omega) (by first | assumption | exact hI.n | exact hI.mask | exact hI.k | exact hI.chips | omega) (by first | assumption | exact hI.n | exact hI.mask | exact hI.k | exact hI.chips | omega) (by first | assumption | exact hI.n | exact hI.mask | exact hI.k | exact hI.chips | omega)) dX5_even_38 [] rfl (Nat.le_of_ble_eq_true rfl) rfl (rm_ok hRm (by decide) (by decide)) 0 1 rfl rfl (fun r38 m38 hp38 => ?_)
        obtain ⟨rfl, rfl⟩ := hp38
        refine x_istore_n hC [(3, .int (nI (evx (S 0 1) v (S 0 0)))), (0, .ref (a 0)), (1, .int (nI v)), (2, .int (nI 1))] rfl (lt_n hn rfl) dX5_even_41 ?_
        refine x_iload_n hC 0 rfl dX5_even_42 ?_
        refine x_callN hC cs_X5_196 (c_J6_highestOneBit_0f7a4 (v := (evx (S 0 1) v (S 0 0)))  (show 0 < evS S v by omega) (show evS S v < 16384 by omega)) dX5_even_43 [] rfl (Nat.le_of_ble_eq_true rfl) rfl (rm_ok hRm (by decide) (by decide)) ?_
        refine x_istore hC [(4, .int (nI (2 ^ Nat.log2 (evx (S 0 1) v (S 0 0))))), (3, .int (nI (evx (S 0 1) v (S 0 0)))), (0, .ref (a 0)), (1, .int (nI v)), (2, .int (nI 1))] rfl (lt_n hn rfl) dX5_even_46 ?_
        refine x_iload_n hC 4 rfl dX5_even_48 ?_
        refine x_if_ne_T hC 60 dX5_even_49 rfl (by decide) ?_
        refine x_iload_n hC 1 rfl dX5_even_60 ?_
        refine x_iload hC 0 rfl dX5_even_61 ?_
        refine x_isubE hC (z := (nI ((evx (S 0 1) v (S 0 0)) - (2 ^ Nat.log2 (evx (S 0 1) v (S 0 0)))))) (pk_sub (Nat.log2_self_le (show evS S v ≠ 0 by omega))) dX5_even_63 ?_
        exact x_iret hC hR dX5_even_64 (sp_leaf (by simp [sp_even, h8, g23, g23, tv, tt, evS]) (hI))
      · -- 23 F
        have g23 : isI 2 t = false := isAns_F h18 h23
        refine x_aload_n hC 0 rfl dX5_even_26 ?_
        refine x_bipush hC (v := (zI (-2))) dX5_even_27 rfl ?_
        refine x_callVI hC cw_X5_50 (c_X5_refuse (z := (-2)) (j := 2) (v := (S 1 2)) (by decide) (by decide) (hI.ref 2 (by decide))) dX5_even_29 [] rfl (Nat.le_of_ble_eq_true rfl) rfl (rm_ok hRm (by decide) (by decide)) 5 0 rfl rfl (fun r29 m29 hp29 => ?_)
        obtain ⟨rfl, rfl⟩ := hp29
        exact x_iret hC hR dX5_even_32 (sp_leaf (by simp [sp_even, h8, g23, g23, tv, evS]) (hI.rfs 2 (by decide)))
  · -- 8 F
    refine x_aload_n hC 0 rfl dX5_even_11 ?_
    refine x_iconst hC (v := (zI (-1))) dX5_even_12 rfl ?_
    refine x_callVI hC cw_X5_50 (c_X5_refuse (z := (-1)) (j := 1) (v := (S 1 1)) (by decide) (by decide) (hI.ref 1 (by decide))) dX5_even_13 [] rfl (Nat.le_of_ble_eq_true rfl) rfl (rm_ok hRm (by decide) (by decide)) 5 0 rfl rfl (fun r13 m13 hp13 => ?_)
    obtain ⟨rfl, rfl⟩ := hp13
    exact x_iret hC hR dX5_even_16 (sp_leaf (by simp [sp_even, h8, evS]) (hI.rfs 1 (by decide)))
set_option maxHeartbeats 4000000 in
set_option maxRecDepth 100000 in
theorem c_X5_waysOfKey {l : Launch} {D : va_G} {c : Nat → ClassId} {a : Nat → Nat} {μ : Me} {key h : Nat} {S : SS} (hI : XI μ S) (hV : SV S) (hkey : key < 2 ^ S 0 2) (hh : h < 16384) : KL l D (tyE c) (xw c a) yX5_waysOfKey cX5_waysOfKey 3 (rmL 3) [.ref (a 0), .int (nI key), .int (nI h)] μ (fun r u => r = lN (wt S (h ^^^ cw S key)) ∧ μ = u) := by
  refine x_enterL (by decide) (Nat.le_of_ble_eq_true rfl) (fun F hl hD hn hRm hC hR => ?_)
  subst hl hD
  change XW F 0 0 (xw c a μ) [(0, .ref (a 0)), (1, .int (nI key)), (2, .int (nI h))] 0 []
  change FC F cX5_waysOfKey RX5 (tyE c) at hC
  have hn1 := hV.n1
  have hn2 := hV.n2
  have hpn := hV.pn
  have hk6 := hV.k
  have hpk := hV.pk
  have hpk1 := SV.pk1 S
  have hch8 := hV.chips
  have hmk := hV.mask
  have hmk31 : S 0 1 < 2 ^ 31 := by omega
  have hX11 := hI.words
  have hWb : ∀ j, j < 2 ^ S 0 2 → cw S j < 16384 := fun j _ => cw_lt hV j
  have hX10 := hI.le
  have hle8 : ∀ j, j < 14 → S 4 j ≤ 8 := fun j h => by have := (hV.told j h).2.2.2; omega
  refine x_aload_n hC 0 rfl dX5_waysOfKey_0 ?_
  refine x_get hC fl_X5_19 dX5_waysOfKey_1 0 rfl rfl ?_
  refine x_iload_n hC 1 rfl dX5_waysOfKey_4 ?_
  refine x_callVI hC cw_X5_123 (c_X2_isKey (x := (nI key)) (k := (S 0 2)) (by first | assumption | exact hI.n | exact hI.mask | exact hI.k | exact hI.chips | omega) (by first | assumption | exact hI.n | exact hI.mask | exact hI.k | exact hI.chips | omega)) dX5_waysOfKey_5 [] rfl (Nat.le_of_ble_eq_true rfl) rfl (rm_ok hRm (by decide) (by decide)) 2 2 rfl rfl (fun r5 m5 hp5 => ?_)
  obtain ⟨rfl, rfl⟩ := hp5
  refine x_if_eq_F hC 32 dX5_waysOfKey_8 rfl (by rw [isI_in (by omega) hkey]; decide) ?_
  refine x_aload_n hC 0 rfl dX5_waysOfKey_11 ?_
  refine x_get hC fl_X5_10 dX5_waysOfKey_12 0 rfl rfl ?_
  refine x_iload_n hC 2 rfl dX5_waysOfKey_15 ?_
  refine x_aload_n hC 0 rfl dX5_waysOfKey_16 ?_
  refine x_get hC fl_X5_19 dX5_waysOfKey_17 0 rfl rfl ?_
  refine x_get hC fl_X5_126 dX5_waysOfKey_20 2 rfl rfl ?_
  refine x_iload_n hC 1 rfl dX5_waysOfKey_23 ?_
  refine x_iald hC 11 0 rfl rfl (y := (nI (cw S key))) (by omega) (by decide) (hI.words key (by omega)) dX5_waysOfKey_24 ?_
  refine x_ixorE hC (z := (nI (h ^^^ (cw S key)))) (nI_xor _ _) dX5_waysOfKey_25 ?_
  refine x_callVL hC cw_X5_273 (c_X0_waysToBe (w := (h ^^^ (cw S key))) (n := (S 0 0)) (m := (S 0 1)) (le := (S 4)) hI.n hI.mask hn2 hmk31 hX10 hle8 (by have := xor_lt14 hh (cw_lt hV key); omega)) dX5_waysOfKey_26 [] rfl (Nat.le_of_ble_eq_true rfl) rfl (rm_ok hRm (by decide) (by decide)) 0 1 rfl rfl (fun r26 m26 hp26 => ?_)
  obtain ⟨rfl, rfl⟩ := hp26
  refine x_goto hC 33 dX5_waysOfKey_29 rfl ?_
  exact x_lret hC hR dX5_waysOfKey_33 (⟨rfl, rfl⟩)
set_option maxHeartbeats 4000000 in
set_option maxRecDepth 100000 in
theorem c_X5_likeliestKey {l : Launch} {D : va_G} {c : Nat → ClassId} {a : Nat → Nat} {μ : Me} {h : Nat} {S : SS} (hI : XI μ S) (hV : SV S) (hh : h < 16384) : KI l D (tyE c) (xw c a) yX5_likeliestKey cX5_likeliestKey 8 .int (rmL 4) [.ref (a 0), .int (nI h)] μ (fun r u => r = nI (bgS S h) ∧ μ = u) := by
  refine x_enterI (by decide) (Nat.le_of_ble_eq_true rfl) (fun F hl hD hn hRm hC hR => ?_)
  subst hl hD
  change XW F 0 0 (xw c a μ) [(0, .ref (a 0)), (1, .int (nI h))] 0 []
  change FC F cX5_likeliestKey RX5 (tyE c) at hC
  have hn1 := hV.n1
  have hn2 := hV.n2
  have hpn := hV.pn
  have hk6 := hV.k
  have hpk := hV.pk
  have hpk1 := SV.pk1 S
  have hch8 := hV.chips
  have hmk := hV.mask
  have hmk31 : S 0 1 < 2 ^ 31 := by omega
  refine x_iconst hC (v := (nI 0)) dX5_likeliestKey_0 rfl ?_
  refine x_istore_n hC [(2, .int (nI 0)), (0, .ref (a 0)), (1, .int (nI h))] rfl (lt_n hn rfl) dX5_likeliestKey_1 ?_
  refine x_aload_n hC 1 rfl dX5_likeliestKey_2 ?_
  refine x_iconst hC (v := (nI 0)) dX5_likeliestKey_3 rfl ?_
  refine x_iload_n hC 2 rfl dX5_likeliestKey_4 ?_
  refine x_callVL hC cw_X5_187 (c_X5_waysOfKey (key := 0) (h := h)  hI hV (by omega) hh) dX5_likeliestKey_5 [] rfl (Nat.le_of_ble_eq_true rfl) rfl (rm_ok hRm (by decide) (by decide)) 5 0 rfl rfl (fun r5 m5 hp5 => ?_)
  obtain ⟨rfl, rfl⟩ := hp5
  refine x_lstore_n hC [(3, .long (lN (wt S (h ^^^ cw S 0)))), (2, .int (nI 0)), (0, .ref (a 0)), (1, .int (nI h))] rfl (lt_n hn rfl) dX5_likeliestKey_8 ?_
  refine x_iconst hC (v := (nI 1)) dX5_likeliestKey_9 rfl ?_
  refine x_istore hC [(5, .int (nI 1)), (3, .long (lN (wt S (h ^^^ cw S 0)))), (2, .int (nI 0)), (0, .ref (a 0)), (1, .int (nI h))] rfl (lt_n hn rfl) dX5_likeliestKey_10 ?_
  refine x_lv [3, 4, 2, 1, 0] rfl ?_
  have L12 : ∀ (N12 : Nat) (b : Nat) (i : Nat), 2 ^ S 0 2 - i < N12 → (1 ≤ i ∧ i ≤ 2 ^ S 0 2) → (b = amax (fun key => wt S (h ^^^ cw S key)) i) → XW F 0 0 (xw c a μ) [(0, .ref (a 0)), (1, .int (nI h)), (2, .int (nI b)), (3, .long (lN (wt S (h ^^^ cw S b)))), (5, .int (nI i))] 12 [] := by
    intro N12
    induction N12 with
    | zero => intro b i hN12 hi hb; exact absurd hN12 (by omega)
    | succ N12 ih12 =>
      intro b i hN12 hi hb
      refine x_iload hC 4 rfl dX5_likeliestKey_12 ?_
      refine x_aload_n hC 0 rfl dX5_likeliestKey_14 ?_
      refine x_get hC fl_X5_19 dX5_likeliestKey_15 0 rfl rfl ?_
      refine x_callVI hC cw_X5_270 (c_X2_keys  (k := (S 0 2)) (by first | assumption | exact hI.n | exact hI.mask | exact hI.k | exact hI.chips | omega) (by first | assumption | exact hI.n | exact hI.mask | exact hI.k | exact hI.chips | omega)) dX5_likeliestKey_18 [.int (nI i)] rfl (Nat.le_of_ble_eq_true rfl) rfl (rm_ok hRm (by decide) (by decide)) 2 2 rfl rfl (fun r18 m18 hp18 => ?_)
      obtain ⟨rfl, rfl⟩ := hp18
      refine x_icmp_geN hC 52 dX5_likeliestKey_21 rfl (by omega) (by omega) (fun h21 => ?_) (fun h21 => ?_)
      · -- 21 T
        refine x_iload_n hC 2 rfl dX5_likeliestKey_52 ?_
        exact x_iret hC hR dX5_likeliestKey_53 (⟨by rw [hb, show i = 2 ^ S 0 2 by omega]; rfl, rfl⟩)
      · -- 21 F
        refine x_aload_n hC 0 rfl dX5_likeliestKey_24 ?_
        refine x_iload hC 4 rfl dX5_likeliestKey_25 ?_
        refine x_iload_n hC 1 rfl dX5_likeliestKey_27 ?_
        refine x_callVL hC cw_X5_187 (c_X5_waysOfKey (key := i) (h := h)  hI hV (by omega) hh) dX5_likeliestKey_28 [] rfl (Nat.le_of_ble_eq_true rfl) rfl (rm_ok hRm (by decide) (by decide)) 5 0 rfl rfl (fun r28 m28 hp28 => ?_)
        obtain ⟨rfl, rfl⟩ := hp28
        refine x_lstore hC [(6, .long (lN (wt S (h ^^^ cw S i)))), (0, .ref (a 0)), (1, .int (nI h)), (2, .int (nI b)), (3, .long (lN (wt S (h ^^^ cw S b)))), (5, .int (nI i))] rfl (lt_n hn rfl) dX5_likeliestKey_31 ?_
        refine x_lload hC 0 rfl dX5_likeliestKey_33 ?_
        refine x_lload_n hC 4 rfl dX5_likeliestKey_35 ?_
        refine x_lcmp hC dX5_likeliestKey_36 ?_
        refine x_if_le hC 46 dX5_likeliestKey_37 rfl (fun h37 => ?_) (fun h37 => ?_)
        · -- 37 T
          have g37 := lcmp_le (wt_b hV _) (wt_b hV _) h37
          refine x_iinc hC (z := 1) (v := (nI (i + 1))) 5 rfl (nI_add i 1) [(5, .int (nI (i + 1))), (6, .long (lN (wt S (h ^^^ cw S i)))), (0, .ref (a 0)), (1, .int (nI h)), (2, .int (nI b)), (3, .long (lN (wt S (h ^^^ cw S b))))] rfl (lt_n hn rfl) dX5_likeliestKey_46 ?_
          refine x_goto hC 12 dX5_likeliestKey_49 rfl ?_
          refine x_lv [2, 3, 4, 5, 0] rfl ?_
          exact ih12 b (i + 1) (by omega) (by omega) (by rw [amax_S, if_neg (by rw [← hb]; exact Nat.not_lt.mpr g37)]; exact hb)
        · -- 37 F
          have g37 := lcmp_gt (wt_b hV _) (wt_b hV _) h37
          refine x_lload hC 0 rfl dX5_likeliestKey_40 ?_
          refine x_lstore_n hC [(3, .long (lN (wt S (h ^^^ cw S i)))), (6, .long (lN (wt S (h ^^^ cw S i)))), (0, .ref (a 0)), (1, .int (nI h)), (2, .int (nI b)), (5, .int (nI i))] rfl (lt_n hn rfl) dX5_likeliestKey_42 ?_
          refine x_iload hC 5 rfl dX5_likeliestKey_43 ?_
          refine x_istore_n hC [(2, .int (nI i)), (3, .long (lN (wt S (h ^^^ cw S i)))), (6, .long (lN (wt S (h ^^^ cw S i)))), (0, .ref (a 0)), (1, .int (nI h)), (5, .int (nI i))] rfl (lt_n hn rfl) dX5_likeliestKey_45 ?_
          refine x_iinc hC (z := 1) (v := (nI (i + 1))) 5 rfl (nI_add i 1) [(5, .int (nI (i + 1))), (2, .int (nI i)), (3, .long (lN (wt S (h ^^^ cw S i)))), (6, .long (lN (wt S (h ^^^ cw S i)))), (0, .ref (a 0)), (1, .int (nI h))] rfl (lt_n hn rfl) dX5_likeliestKey_46 ?_
          refine x_goto hC 12 dX5_likeliestKey_49 rfl ?_
          refine x_lv [4, 5, 1, 2, 0] rfl ?_
          exact ih12 i (i + 1) (by omega) (by omega) (by rw [amax_S, if_pos (by rw [← hb]; exact g37)])
  exact L12 _ 0 1 (Nat.lt_succ_self _) (by omega) (by rw [amax_1])
set_option maxHeartbeats 4000000 in
set_option maxRecDepth 100000 in
theorem c_X5_waysOfAllKeys {l : Launch} {D : va_G} {c : Nat → ClassId} {a : Nat → Nat} {μ : Me} {h : Nat} {S : SS} (hI : XI μ S) (hV : SV S) (hh : h < 16384) : KL l D (tyE c) (xw c a) yX5_waysOfAllKeys cX5_waysOfAllKeys 5 (rmL 4) [.ref (a 0), .int (nI h)] μ (fun r u => r = lN (sumN (fun key => wt S (h ^^^ cw S key)) (2 ^ S 0 2)) ∧ μ = u) := by
  refine x_enterL (by decide) (Nat.le_of_ble_eq_true rfl) (fun F hl hD hn hRm hC hR => ?_)
  subst hl hD
  change XW F 0 0 (xw c a μ) [(0, .ref (a 0)), (1, .int (nI h))] 0 []
  change FC F cX5_waysOfAllKeys RX5 (tyE c) at hC
  have hn1 := hV.n1
  have hn2 := hV.n2
  have hpn := hV.pn
  have hk6 := hV.k
  have hpk := hV.pk
  have hpk1 := SV.pk1 S
  have hch8 := hV.chips
  have hmk := hV.mask
  have hmk31 : S 0 1 < 2 ^ 31 := by omega
  refine x_lconst hC (v := lN 0) dX5_waysOfAllKeys_0 rfl ?_
  refine x_lstore_n hC [(2, .long (lN 0)), (0, .ref (a 0)), (1, .int (nI h))] rfl (lt_n hn rfl) dX5_waysOfAllKeys_1 ?_
  refine x_iconst hC (v := (nI 0)) dX5_waysOfAllKeys_2 rfl ?_
  refine x_istore hC [(4, .int (nI 0)), (2, .long (lN 0)), (0, .ref (a 0)), (1, .int (nI h))] rfl (lt_n hn rfl) dX5_waysOfAllKeys_3 ?_
  refine x_lv [2, 3, 1, 0] rfl ?_
  have L5 : ∀ (N5 : Nat) (s : Nat) (i : Nat), 2 ^ S 0 2 - i < N5 → (i ≤ 2 ^ S 0 2) → (s = sumN (fun key => wt S (h ^^^ cw S key)) i) → XW F 0 0 (xw c a μ) [(0, .ref (a 0)), (1, .int (nI h)), (2, .long (lN s)), (4, .int (nI i))] 5 [] := by
    intro N5
    induction N5 with
    | zero => intro s i hN5 hi hs; exact absurd hN5 (by omega)
    | succ N5 ih5 =>
      intro s i hN5 hi hs
      refine x_iload hC 3 rfl dX5_waysOfAllKeys_5 ?_
      refine x_aload_n hC 0 rfl dX5_waysOfAllKeys_7 ?_
      refine x_get hC fl_X5_19 dX5_waysOfAllKeys_8 0 rfl rfl ?_
      refine x_callVI hC cw_X5_270 (c_X2_keys  (k := (S 0 2)) (by first | assumption | exact hI.n | exact hI.mask | exact hI.k | exact hI.chips | omega) (by first | assumption | exact hI.n | exact hI.mask | exact hI.k | exact hI.chips | omega)) dX5_waysOfAllKeys_11 [.int (nI i)] rfl (Nat.le_of_ble_eq_true rfl) rfl (rm_ok hRm (by decide) (by decide)) 2 2 rfl rfl (fun r11 m11 hp11 => ?_)
      obtain ⟨rfl, rfl⟩ := hp11
      refine x_icmp_geN hC 33 dX5_waysOfAllKeys_14 rfl (by omega) (by omega) (fun h14 => ?_) (fun h14 => ?_)
      · -- 14 T
        refine x_lload_n hC 2 rfl dX5_waysOfAllKeys_33 ?_
        exact x_lret hC hR dX5_waysOfAllKeys_34 (⟨by rw [hs, show i = 2 ^ S 0 2 by omega], rfl⟩)
      · -- 14 F
        refine x_lload_n hC 2 rfl dX5_waysOfAllKeys_17 ?_
        refine x_aload_n hC 0 rfl dX5_waysOfAllKeys_18 ?_
        refine x_iload hC 3 rfl dX5_waysOfAllKeys_19 ?_
        refine x_iload_n hC 1 rfl dX5_waysOfAllKeys_21 ?_
        refine x_callVL hC cw_X5_187 (c_X5_waysOfKey (key := i) (h := h)  hI hV (by omega) hh) dX5_waysOfAllKeys_22 [.long (lN s)] rfl (Nat.le_of_ble_eq_true rfl) rfl (rm_ok hRm (by decide) (by decide)) 5 0 rfl rfl (fun r22 m22 hp22 => ?_)
        obtain ⟨rfl, rfl⟩ := hp22
        refine x_laddE hC (z := (lN (s + (wt S (h ^^^ cw S i))))) (lN_add _ _) dX5_waysOfAllKeys_25 ?_
        refine x_lstore_n hC [(2, .long (lN (s + (wt S (h ^^^ cw S i))))), (0, .ref (a 0)), (1, .int (nI h)), (4, .int (nI i))] rfl (lt_n hn rfl) dX5_waysOfAllKeys_26 ?_
        refine x_iinc hC (z := 1) (v := (nI (i + 1))) 3 rfl (nI_add i 1) [(4, .int (nI (i + 1))), (2, .long (lN (s + (wt S (h ^^^ cw S i))))), (0, .ref (a 0)), (1, .int (nI h))] rfl (lt_n hn rfl) dX5_waysOfAllKeys_27 ?_
        refine x_goto hC 5 dX5_waysOfAllKeys_30 rfl ?_
        refine x_lv [2, 3, 1, 0] rfl ?_
        exact ih5 (s + (wt S (h ^^^ cw S i))) (i + 1) (by omega) (by omega) (by rw [hs]; rfl)
  exact L5 _ 0 0 (Nat.lt_succ_self _) (Nat.zero_le _) rfl
set_option maxHeartbeats 4000000 in
set_option maxRecDepth 100000 in
theorem c_X5_guess {l : Launch} {D : va_G} {c : Nat → ClassId} {a : Nat → Nat} {μ : Me} {x : Int32} {S : SS} (hI : XI μ S) (hV : SV S) : KI l D (tyE c) (xw c a) yX5_guess cX5_guess 2 .int (rmL 5) [.ref (a 0), .int x] μ (fun r u => r = (sp_guess S x).1 ∧ XI u (sp_guess S x).2) := by
  refine x_enterI (by decide) (Nat.le_of_ble_eq_true rfl) (fun F hl hD hn hRm hC hR => ?_)
  subst hl hD
  change XW F 0 0 (xw c a μ) [(0, .ref (a 0)), (1, .int x)] 0 []
  change FC F cX5_guess RX5 (tyE c) at hC
  have hn1 := hV.n1
  have hn2 := hV.n2
  have hpn := hV.pn
  have hk6 := hV.k
  have hpk := hV.pk
  have hpk1 := SV.pk1 S
  have hch8 := hV.chips
  have hmk := hV.mask
  have hmk31 : S 0 1 < 2 ^ 31 := by omega
  refine x_aload_n hC 0 rfl dX5_guess_0 ?_
  refine x_get hC fl_X5_10 dX5_guess_1 0 rfl rfl ?_
  refine x_iload_n hC 1 rfl dX5_guess_4 ?_
  refine x_callVI hC cw_X5_67 (c_X0_isWord (x := x) (n := (S 0 0)) (by first | assumption | exact hI.n | exact hI.mask | exact hI.k | exact hI.chips | omega) (by first | assumption | exact hI.n | exact hI.mask | exact hI.k | exact hI.chips | omega)) dX5_guess_5 [] rfl (Nat.le_of_ble_eq_true rfl) rfl (rm_ok hRm (by decide) (by decide)) 0 1 rfl rfl (fun r5 m5 hp5 => ?_)
  obtain ⟨rfl, rfl⟩ := hp5
  refine x_if_eqB hC 19 dX5_guess_8 rfl (fun h8 => ?_) (fun h8 => ?_)
  · -- 8 T
    refine x_aload_n hC 0 rfl dX5_guess_19 ?_
    refine x_iconst hC (v := (zI (-1))) dX5_guess_20 rfl ?_
    refine x_callVI hC cw_X5_50 (c_X5_refuse (z := (-1)) (j := 1) (v := (S 1 1)) (by decide) (by decide) (hI.ref 1 (by decide))) dX5_guess_21 [] rfl (Nat.le_of_ble_eq_true rfl) rfl (rm_ok hRm (by decide) (by decide)) 5 0 rfl rfl (fun r21 m21 hp21 => ?_)
    obtain ⟨rfl, rfl⟩ := hp21
    exact x_iret hC hR dX5_guess_24 (sp_leaf (by simp [sp_guess, h8]) (hI.rfs 1 (by decide)))
  · -- 8 F
    obtain ⟨v, hv, rfl⟩ := isI_T h8
    have tv := tn_nI (v := v) (by omega)
    refine x_aload_n hC 0 rfl dX5_guess_11 ?_
    refine x_iload_n hC 1 rfl dX5_guess_12 ?_
    refine x_callVI hC cw_X5_178 (c_X5_likeliestKey (h := v)  hI hV (by omega)) dX5_guess_13 [] rfl (Nat.le_of_ble_eq_true rfl) rfl (rm_ok hRm (by decide) (by decide)) 5 0 rfl rfl (fun r13 m13 hp13 => ?_)
    obtain ⟨rfl, rfl⟩ := hp13
    refine x_goto hC 24 dX5_guess_16 rfl ?_
    exact x_iret hC hR dX5_guess_24 (sp_leaf (by simp [sp_guess, h8, tv]) (hI))
set_option maxHeartbeats 4000000 in
set_option maxRecDepth 100000 in
theorem c_X5_failsAbove {l : Launch} {D : va_G} {c : Nat → ClassId} {a : Nat → Nat} {μ : Me} {e key age : Nat} {S : SS} (hI : XI μ S) (hV : SV S) (he : e ≤ 8) (hkey : key < 2 ^ S 0 2) (hage : age ≤ 40) : KI l D (tyE c) (xw c a) yX5_failsAbove cX5_failsAbove 4 .boolean (rmL 42) [.ref (a 0), .int (nI e), .int (nI key), .int (nI age)] μ (fun r u => r = bz (abv S key e age) ∧ XI u S) := by
  refine x_enterI (by decide) (Nat.le_of_ble_eq_true rfl) (fun F hl hD hn hRm hC hR => ?_)
  subst hl hD
  change XW F 0 0 (xw c a μ) [(0, .ref (a 0)), (1, .int (nI e)), (2, .int (nI key)), (3, .int (nI age))] 0 []
  change FC F cX5_failsAbove RX5 (tyE c) at hC
  have hn1 := hV.n1
  have hn2 := hV.n2
  have hpn := hV.pn
  have hk6 := hV.k
  have hpk := hV.pk
  have hpk1 := SV.pk1 S
  have hch8 := hV.chips
  have hmk := hV.mask
  have hmk31 : S 0 1 < 2 ^ 31 := by omega
  have hX8 := hI.ch
  have hX9 := hI.we
  have hcb : ∀ j, j < 14 → S 2 j ≤ 4 ∧ S 3 j ≤ 4 := fun j h => ⟨(hV.told j h).1, (hV.told j h).2.1⟩
  have hX11 := hI.words
  have hWb : ∀ j, j < 2 ^ S 0 2 → cw S j < 16384 := fun j _ => cw_lt hV j
  refine x_aload_n hC 0 rfl dX5_failsAbove_0 ?_
  refine x_get hC fl_X5_42 dX5_failsAbove_1 0 rfl rfl ?_
  refine x_iload_n hC 2 rfl dX5_failsAbove_4 ?_
  refine x_iload_n hC 3 rfl dX5_failsAbove_5 ?_
  refine x_callVL hC cw_X5_167 (c_X3_harmful (key := key) (age := age) (n := (S 0 0)) (m := (S 0 1)) (k := (S 0 2)) (ch := (S 2)) (we := (S 3)) (W := (cw S)) hI.n hI.mask hn2 hmk31 hX8 hX9 hcb hage hI.k hk6 hX11 hWb hkey) dX5_failsAbove_6 [] rfl (Nat.le_of_ble_eq_true rfl) rfl (rm_ok hRm (by decide) (by decide)) 3 5 rfl rfl (fun r6 m6 hp6 => ?_)
  obtain ⟨rfl, f, g, rfl⟩ := hp6
  refine x_topl (y := lN (failS S key age)) (harm_eq hV key age) ?_
  refine x_ldc2 hC cn_X5_268 dX5_failsAbove_9 ?_
  refine x_topl (show (8 : Int64) = lN 8 from rfl) ?_
  refine x_lmulE hC (z := (lN ((failS S key age) * 8))) (lN_mul _ _) dX5_failsAbove_12 ?_
  refine x_aload_n hC 0 rfl dX5_failsAbove_13 ?_
  refine x_get hC fl_X5_10 dX5_failsAbove_14 0 rfl rfl ?_
  refine x_callVL hC cw_X5_171 (c_X0_allWays  (n := (S 0 0)) (m := (S 0 1)) hI.n hI.mask hn2) dX5_failsAbove_17 [.long (lN ((failS S key age) * 8))] rfl (Nat.le_of_ble_eq_true rfl) rfl (rm_ok hRm (by decide) (by decide)) 0 1 rfl rfl (fun r17 m17 hp17 => ?_)
  obtain ⟨rfl, rfl⟩ := hp17
  refine x_iload_n hC 1 rfl dX5_failsAbove_20 ?_
  refine x_i2l hC (v := (lN e)) (nI_l (by omega)) dX5_failsAbove_21 ?_
  refine x_lmulE hC (z := (lN ((2 ^ (3 * pc (nd (2 ^ (S 0 0) - 1) (S 0 1)))) * e))) (lN_mul _ _) dX5_failsAbove_22 ?_
  have hfb := failS_b hV key age
  have hab := allS_b hV
  have hae : allS S * e ≤ 2 ^ 42 * 8 := Nat.mul_le_mul hab he
  refine x_lcmp hC dX5_failsAbove_23 ?_
  refine x_if_le hC 31 dX5_failsAbove_24 rfl (fun h24 => ?_) (fun h24 => ?_)
  · -- 24 T
    have g24 : failS S key age * 8 ≤ allS S * e := lcmp_le (by omega) (by show allS S * e < _; omega) h24
    refine x_iconst hC (v := (nI 0)) dX5_failsAbove_31 rfl ?_
    exact x_zret hC hR dX5_failsAbove_32 rfl (⟨by rw [abv, decide_eq_false (by omega)]; rfl, hI.fl f g⟩)
  · -- 24 F
    have g24 : allS S * e < failS S key age * 8 := lcmp_gt (by omega) (by show allS S * e < _; omega) h24
    refine x_iconst hC (v := (nI 1)) dX5_failsAbove_27 rfl ?_
    refine x_goto hC 32 dX5_failsAbove_28 rfl ?_
    exact x_zret hC hR dX5_failsAbove_32 rfl (⟨by rw [abv, decide_eq_true (by omega)]; rfl, hI.fl f g⟩)
set_option maxHeartbeats 4000000 in
set_option maxRecDepth 100000 in
theorem c_X5_firstAgeAbove {l : Launch} {D : va_G} {c : Nat → ClassId} {a : Nat → Nat} {μ : Me} {e key : Nat} {S : SS} (hI : XI μ S) (hV : SV S) (he : e ≤ 8) (hkey : key < 2 ^ S 0 2) : KI l D (tyE c) (xw c a) yX5_firstAgeAbove cX5_firstAgeAbove 7 .int (rmL 43) [.ref (a 0), .int (nI e), .int (nI key)] μ (fun r u => r = (if lastS S key e < 41 then nI (lastS S key e) else zI (-9)) ∧ XI u S) := by
  refine x_enterI (by decide) (Nat.le_of_ble_eq_true rfl) (fun F hl hD hn hRm hC hR => ?_)
  subst hl hD
  change XW F 0 0 (xw c a μ) [(0, .ref (a 0)), (1, .int (nI e)), (2, .int (nI key))] 0 []
  change FC F cX5_firstAgeAbove RX5 (tyE c) at hC
  have hn1 := hV.n1
  have hn2 := hV.n2
  have hpn := hV.pn
  have hk6 := hV.k
  have hpk := hV.pk
  have hpk1 := SV.pk1 S
  have hch8 := hV.chips
  have hmk := hV.mask
  have hmk31 : S 0 1 < 2 ^ 31 := by omega
  refine x_aload_n hC 0 rfl dX5_firstAgeAbove_0 ?_
  refine x_iload_n hC 1 rfl dX5_firstAgeAbove_1 ?_
  refine x_iload_n hC 2 rfl dX5_firstAgeAbove_2 ?_
  refine x_bipush hC (v := (nI 40)) dX5_firstAgeAbove_3 rfl ?_
  refine x_callVI hC cw_X5_264 (c_X5_failsAbove (e := e) (key := key) (age := 40)  hI hV he hkey (by decide)) dX5_firstAgeAbove_5 [] rfl (Nat.le_of_ble_eq_true rfl) rfl (rm_ok hRm (by decide) (by decide)) 5 0 rfl rfl (fun r5 m5 hp5 => ?_)
  obtain ⟨rfl, hMm5⟩ := hp5
  refine x_if_neB hC 14 dX5_firstAgeAbove_8 rfl (fun h8 => ?_) (fun h8 => ?_)
  · -- 8 T
    refine x_iconst hC (v := (nI 0)) dX5_firstAgeAbove_14 rfl ?_
    refine x_istore_n hC [(3, .int (nI 0)), (0, .ref (a 0)), (1, .int (nI e)), (2, .int (nI key))] rfl (lt_n hn rfl) dX5_firstAgeAbove_15 ?_
    refine x_bipush hC (v := (nI 40)) dX5_firstAgeAbove_16 rfl ?_
    refine x_istore hC [(4, .int (nI 40)), (3, .int (nI 0)), (0, .ref (a 0)), (1, .int (nI e)), (2, .int (nI key))] rfl (lt_n hn rfl) dX5_firstAgeAbove_18 ?_
    refine x_iconst hC (v := (nI 0)) dX5_firstAgeAbove_20 rfl ?_
    refine x_istore hC [(5, .int (nI 0)), (4, .int (nI 40)), (3, .int (nI 0)), (0, .ref (a 0)), (1, .int (nI e)), (2, .int (nI key))] rfl (lt_n hn rfl) dX5_firstAgeAbove_21 ?_
    refine x_lv [3, 4, 5, 2, 1, 0] rfl ?_
    have L23 : ∀ (N23 : Nat) (M : Me) (l : Nat) (t : Nat) (j : Nat), 40 - j < N23 → (XI M S) → (l ≤ t ∧ t ≤ 40) → (t - l + j ≤ 40) → (abv S key e t = true) → (∀ i, i < l → abv S key e i = false) → XW F 0 0 (xw c a M) [(0, .ref (a 0)), (1, .int (nI e)), (2, .int (nI key)), (3, .int (nI l)), (4, .int (nI t)), (5, .int (nI j))] 23 [] := by
      intro N23
      induction N23 with
      | zero => intro M l t j hN23 hM hlt hj ht hlo; exact absurd hN23 (by omega)
      | succ N23 ih23 =>
        intro M l t j hN23 hM hlt hj ht hlo
        refine x_iload hC 5 rfl dX5_firstAgeAbove_23 ?_
        refine x_bipush hC (v := (nI 40)) dX5_firstAgeAbove_25 rfl ?_
        refine x_icmp_geN hC 73 dX5_firstAgeAbove_27 rfl (by omega) (by decide) (fun h27 => ?_) (fun h27 => ?_)
        · -- 27 T
          refine x_iload_n hC 3 rfl dX5_firstAgeAbove_73 ?_
          exact x_iret hC hR dX5_firstAgeAbove_74 (⟨by rw [lastS, bin_end (by omega) hlt.1 hlt.2 ht hlo, if_pos (by omega)], hM⟩)
        · -- 27 F
          refine x_iload_n hC 3 rfl dX5_firstAgeAbove_30 ?_
          refine x_iload hC 4 rfl dX5_firstAgeAbove_31 ?_
          refine x_icmp_geN hC 73 dX5_firstAgeAbove_33 rfl (by omega) (by omega) (fun h33 => ?_) (fun h33 => ?_)
          · -- 33 T
            refine x_iload_n hC 3 rfl dX5_firstAgeAbove_73 ?_
            exact x_iret hC hR dX5_firstAgeAbove_74 (⟨by rw [lastS, bin_end (by omega) hlt.1 hlt.2 ht hlo, if_pos (by omega)], hM⟩)
          · -- 33 F
            refine x_iload_n hC 3 rfl dX5_firstAgeAbove_36 ?_
            refine x_iload hC 4 rfl dX5_firstAgeAbove_37 ?_
            refine x_iaddE hC (z := (nI (l + t))) (nI_add _ _) dX5_firstAgeAbove_39 ?_
            refine x_iconst hC (v := (nI 2)) dX5_firstAgeAbove_40 rfl ?_
            refine x_idivE hC (z := (nI ((l + t) / 2))) (by decide) (pk_div (by omega) (by decide) (by decide)) dX5_firstAgeAbove_41 ?_
            refine x_istore hC [(6, .int (nI ((l + t) / 2))), (0, .ref (a 0)), (1, .int (nI e)), (2, .int (nI key)), (3, .int (nI l)), (4, .int (nI t)), (5, .int (nI j))] rfl (lt_n hn rfl) dX5_firstAgeAbove_42 ?_
            refine x_aload_n hC 1 rfl dX5_firstAgeAbove_44 ?_
            refine x_iload_n hC 2 rfl dX5_firstAgeAbove_45 ?_
            refine x_iload_n hC 3 rfl dX5_firstAgeAbove_46 ?_
            refine x_iload hC 0 rfl dX5_firstAgeAbove_47 ?_
            refine x_callVI hC cw_X5_264 (c_X5_failsAbove (e := e) (key := key) (age := ((l + t) / 2))  hM hV he hkey (by omega)) dX5_firstAgeAbove_49 [] rfl (Nat.le_of_ble_eq_true rfl) rfl (rm_ok hRm (by decide) (by decide)) 5 0 rfl rfl (fun r49 m49 hp49 => ?_)
            obtain ⟨rfl, hMm49⟩ := hp49
            refine x_if_eqB hC 62 dX5_firstAgeAbove_52 rfl (fun h52 => ?_) (fun h52 => ?_)
            · -- 52 T
              refine x_iload hC 0 rfl dX5_firstAgeAbove_62 ?_
              refine x_iconst hC (v := (nI 1)) dX5_firstAgeAbove_64 rfl ?_
              refine x_iaddE hC (z := (nI (((l + t) / 2) + 1))) (nI_add _ _) dX5_firstAgeAbove_65 ?_
              refine x_istore_n hC [(3, .int (nI (((l + t) / 2) + 1))), (6, .int (nI ((l + t) / 2))), (0, .ref (a 0)), (1, .int (nI e)), (2, .int (nI key)), (4, .int (nI t)), (5, .int (nI j))] rfl (lt_n hn rfl) dX5_firstAgeAbove_66 ?_
              refine x_iinc hC (z := 1) (v := (nI (j + 1))) 6 rfl (nI_add j 1) [(5, .int (nI (j + 1))), (3, .int (nI (((l + t) / 2) + 1))), (6, .int (nI ((l + t) / 2))), (0, .ref (a 0)), (1, .int (nI e)), (2, .int (nI key)), (4, .int (nI t))] rfl (lt_n hn rfl) dX5_firstAgeAbove_67 ?_
              refine x_goto hC 23 dX5_firstAgeAbove_70 rfl ?_
              refine x_lv [3, 4, 5, 1, 6, 0] rfl ?_
              exact ih23 m49 (((l + t) / 2) + 1) t (j + 1) (by omega) hMm49 (by omega) (by omega) ht (fun i h => by cases hq : abv S key e i with | false => rfl | true => rw [abv_mono hV hkey (show i ≤ (l + t) / 2 by omega) hq] at h52; cases h52)
            · -- 52 F
              refine x_iload hC 0 rfl dX5_firstAgeAbove_55 ?_
              refine x_istore hC [(4, .int (nI ((l + t) / 2))), (6, .int (nI ((l + t) / 2))), (0, .ref (a 0)), (1, .int (nI e)), (2, .int (nI key)), (3, .int (nI l)), (5, .int (nI j))] rfl (lt_n hn rfl) dX5_firstAgeAbove_57 ?_
              refine x_goto hC 67 dX5_firstAgeAbove_59 rfl ?_
              refine x_iinc hC (z := 1) (v := (nI (j + 1))) 6 rfl (nI_add j 1) [(5, .int (nI (j + 1))), (4, .int (nI ((l + t) / 2))), (6, .int (nI ((l + t) / 2))), (0, .ref (a 0)), (1, .int (nI e)), (2, .int (nI key)), (3, .int (nI l))] rfl (lt_n hn rfl) dX5_firstAgeAbove_67 ?_
              refine x_goto hC 23 dX5_firstAgeAbove_70 rfl ?_
              refine x_lv [3, 4, 5, 6, 1, 0] rfl ?_
              exact ih23 m49 l ((l + t) / 2) (j + 1) (by omega) hMm49 (by omega) (by omega) h52 hlo
    exact L23 _ m5 0 40 0 (Nat.lt_succ_self _) hMm5 (by omega) (by omega) h8 (fun i h => absurd h (by omega))
  · -- 8 F
    refine x_bipush hC (v := (zI (-9))) dX5_firstAgeAbove_11 rfl ?_
    exact x_iret hC hR dX5_firstAgeAbove_13 (⟨by rw [lastS, show ff (abv S key e) 41 = 41 from ff_none (fun i hi => by cases hq : abv S key e i with | false => rfl | true => rw [abv_mono hV hkey (show i ≤ 40 by omega) hq] at h8; cases h8)]; rfl, hMm5⟩)
set_option maxHeartbeats 4000000 in
set_option maxRecDepth 100000 in
theorem c_X5_lasts {l : Launch} {D : va_G} {c : Nat → ClassId} {a : Nat → Nat} {μ : Me} {x : Int32} {e : Int32} {S : SS} (hI : XI μ S) (hV : SV S) : KI l D (tyE c) (xw c a) yX5_lasts cX5_lasts 3 .int (rmL 44) [.ref (a 0), .int x, .int e] μ (fun r u => r = (sp_lasts S x e).1 ∧ XI u (sp_lasts S x e).2) := by
  refine x_enterI (by decide) (Nat.le_of_ble_eq_true rfl) (fun F hl hD hn hRm hC hR => ?_)
  subst hl hD
  change XW F 0 0 (xw c a μ) [(0, .ref (a 0)), (1, .int x), (2, .int e)] 0 []
  change FC F cX5_lasts RX5 (tyE c) at hC
  have hn1 := hV.n1
  have hn2 := hV.n2
  have hpn := hV.pn
  have hk6 := hV.k
  have hpk := hV.pk
  have hpk1 := SV.pk1 S
  have hch8 := hV.chips
  have hmk := hV.mask
  have hmk31 : S 0 1 < 2 ^ 31 := by omega
  have hX12 : ∀ j, j < S 0 3 → μ 12 j = nI (S 5 j) := fun j h => (hI.chip j h).1
  refine x_aload_n hC 0 rfl dX5_lasts_0 ?_
  refine x_get hC fl_X5_26 dX5_lasts_1 0 rfl rfl ?_
  refine x_iload_n hC 1 rfl dX5_lasts_4 ?_
  refine x_callVI hC cw_X5_135 (c_X1_isChip (x := x) (m := (S 0 3)) hI.chips hch8) dX5_lasts_5 [] rfl (Nat.le_of_ble_eq_true rfl) rfl (rm_ok hRm (by decide) (by decide)) 1 3 rfl rfl (fun r5 m5 hp5 => ?_)
  obtain ⟨rfl, rfl⟩ := hp5
  refine x_if_neB hC 17 dX5_lasts_8 rfl (fun h8 => ?_) (fun h8 => ?_)
  · -- 8 T
    obtain ⟨v, hv, rfl⟩ := isI_T h8
    have tv := tn_nI (v := v) (by omega)
    refine x_aload_n hC 0 rfl dX5_lasts_17 ?_
    refine x_get hC fl_X5_26 dX5_lasts_18 0 rfl rfl ?_
    refine x_get hC fl_X5_145 dX5_lasts_21 3 rfl rfl ?_
    refine x_iload_n hC 1 rfl dX5_lasts_24 ?_
    refine x_zald hC 13 1 rfl rfl (y := (bz (decide (S 6 v = 1)))) (by omega) (by decide) ((hI.chip v (by omega)).2.1) dX5_lasts_25 ?_
    refine x_if_neB hC 36 dX5_lasts_26 rfl (fun h26 => ?_) (fun h26 => ?_)
    · -- 26 T
      have hhp := of_decide_eq_true h26
      refine x_iload_n hC 2 rfl dX5_lasts_36 ?_
      refine x_if_ge hC 47 dX5_lasts_37 rfl (fun h37 => ?_) (fun h37 => ?_)
      · -- 37 T
        have g37 : ¬ e < nI 0 := by first | exact i32_nlt h37 | exact i32_nlt' h37 | exact h37
        refine x_iload_n hC 2 rfl dX5_lasts_47 ?_
        refine x_bipush hC (v := (nI 8)) dX5_lasts_48 rfl ?_
        refine x_icmp_le hC 60 dX5_lasts_50 rfl (fun h50 => ?_) (fun h50 => ?_)
        · -- 50 T
          have g50 : ¬ nI 8 < e := by first | exact i32_nlt h50 | exact i32_nlt' h50 | exact h50
          obtain ⟨y, hy1, hy2, rfl⟩ := rng (lo := 0) (hi := 8) (by decide) (by decide) g37 g50
          have ty := tn_nI (v := y) (by omega)
          refine x_aload_n hC 0 rfl dX5_lasts_60 ?_
          refine x_iload_n hC 2 rfl dX5_lasts_61 ?_
          refine x_aload_n hC 0 rfl dX5_lasts_62 ?_
          refine x_get hC fl_X5_26 dX5_lasts_63 0 rfl rfl ?_
          refine x_get hC fl_X5_164 dX5_lasts_66 3 rfl rfl ?_
          refine x_iload_n hC 1 rfl dX5_lasts_69 ?_
          refine x_iald hC 15 0 rfl rfl (y := (nI (S 8 v))) (by omega) (by decide) (((hI.chip v (by omega)).2.2 hhp).2) dX5_lasts_70 ?_
          refine x_callVI hC cw_X5_175 (c_X5_firstAgeAbove (e := y) (key := (S 8 v))  hI hV (by omega) ((hV.chip v hv).2.2 hhp).2.2) dX5_lasts_71 [] rfl (Nat.le_of_ble_eq_true rfl) rfl (rm_ok hRm (by decide) (by decide)) 5 0 rfl rfl (fun r71 m71 hp71 => ?_)
          obtain ⟨hr, hM⟩ := hp71
          refine x_top hr ?_
          exact x_iret hC hR dX5_lasts_74 (sp_leaf (by simp [sp_lasts, h8, hhp, g37, g50, tv, ty]) (hM))
        · -- 50 F
          have g50 : nI 8 < e := by first | exact i32_nlt h50 | exact i32_nlt' h50 | exact h50
          refine x_aload_n hC 0 rfl dX5_lasts_53 ?_
          refine x_bipush hC (v := (zI (-6))) dX5_lasts_54 rfl ?_
          refine x_callVI hC cw_X5_50 (c_X5_refuse (z := (-6)) (j := 6) (v := (S 1 6)) (by decide) (by decide) (hI.ref 6 (by decide))) dX5_lasts_56 [] rfl (Nat.le_of_ble_eq_true rfl) rfl (rm_ok hRm (by decide) (by decide)) 5 0 rfl rfl (fun r56 m56 hp56 => ?_)
          obtain ⟨rfl, rfl⟩ := hp56
          exact x_iret hC hR dX5_lasts_59 (sp_leaf (by simp [sp_lasts, h8, hhp, g37, g50, tv]) (hI.rfs 6 (by decide)))
      · -- 37 F
        have g37 : e < nI 0 := by first | exact i32_nlt h37 | exact i32_nlt' h37 | exact h37
        refine x_aload_n hC 0 rfl dX5_lasts_40 ?_
        refine x_bipush hC (v := (zI (-4))) dX5_lasts_41 rfl ?_
        refine x_callVI hC cw_X5_50 (c_X5_refuse (z := (-4)) (j := 4) (v := (S 1 4)) (by decide) (by decide) (hI.ref 4 (by decide))) dX5_lasts_43 [] rfl (Nat.le_of_ble_eq_true rfl) rfl (rm_ok hRm (by decide) (by decide)) 5 0 rfl rfl (fun r43 m43 hp43 => ?_)
        obtain ⟨rfl, rfl⟩ := hp43
        exact x_iret hC hR dX5_lasts_46 (sp_leaf (by simp [sp_lasts, h8, hhp, g37, tv]) (hI.rfs 4 (by decide)))
    · -- 26 F
      have hhp := of_decide_eq_false h26
      refine x_aload_n hC 0 rfl dX5_lasts_29 ?_
      refine x_bipush hC (v := (zI (-3))) dX5_lasts_30 rfl ?_
      refine x_callVI hC cw_X5_50 (c_X5_refuse (z := (-3)) (j := 3) (v := (S 1 3)) (by decide) (by decide) (hI.ref 3 (by decide))) dX5_lasts_32 [] rfl (Nat.le_of_ble_eq_true rfl) rfl (rm_ok hRm (by decide) (by decide)) 5 0 rfl rfl (fun r32 m32 hp32 => ?_)
      obtain ⟨rfl, rfl⟩ := hp32
      exact x_iret hC hR dX5_lasts_35 (sp_leaf (by simp [sp_lasts, h8, hhp, tv]) (hI.rfs 3 (by decide)))
  · -- 8 F
    refine x_aload_n hC 0 rfl dX5_lasts_11 ?_
    refine x_iconst hC (v := (zI (-1))) dX5_lasts_12 rfl ?_
    refine x_callVI hC cw_X5_50 (c_X5_refuse (z := (-1)) (j := 1) (v := (S 1 1)) (by decide) (by decide) (hI.ref 1 (by decide))) dX5_lasts_13 [] rfl (Nat.le_of_ble_eq_true rfl) rfl (rm_ok hRm (by decide) (by decide)) 5 0 rfl rfl (fun r13 m13 hp13 => ?_)
    obtain ⟨rfl, rfl⟩ := hp13
    exact x_iret hC hR dX5_lasts_16 (sp_leaf (by simp [sp_lasts, h8]) (hI.rfs 1 (by decide)))
set_option maxHeartbeats 4000000 in
set_option maxRecDepth 100000 in
theorem c_X5_count {l : Launch} {D : va_G} {c : Nat → ClassId} {a : Nat → Nat} {μ : Me} {x : Int32} {S : SS} (hI : XI μ S) (hV : SV S) : KI l D (tyE c) (xw c a) yX5_count cX5_count 2 .int (rmL 4) [.ref (a 0), .int x] μ (fun r u => r = (sp_count S x).1 ∧ XI u (sp_count S x).2) := by
  refine x_enterI (by decide) (Nat.le_of_ble_eq_true rfl) (fun F hl hD hn hRm hC hR => ?_)
  subst hl hD
  change XW F 0 0 (xw c a μ) [(0, .ref (a 0)), (1, .int x)] 0 []
  change FC F cX5_count RX5 (tyE c) at hC
  have hn1 := hV.n1
  have hn2 := hV.n2
  have hpn := hV.pn
  have hk6 := hV.k
  have hpk := hV.pk
  have hpk1 := SV.pk1 S
  have hch8 := hV.chips
  have hmk := hV.mask
  have hmk31 : S 0 1 < 2 ^ 31 := by omega
  have hX12 : ∀ j, j < S 0 3 → μ 12 j = nI (S 5 j) := fun j h => (hI.chip j h).1
  refine x_iload_n hC 1 rfl dX5_count_0 ?_
  cases hq : isI 8 x with
  | true =>
    obtain ⟨v, hv, rfl⟩ := isI_T hq
    obtain rfl | rfl | rfl | rfl | rfl | rfl | rfl | rfl : v = 0 ∨ v = 1 ∨ v = 2 ∨ v = 3 ∨ v = 4 ∨ v = 5 ∨ v = 6 ∨ v = 7 := by omega
    · skip
      refine x_tableIn hC 48 dX5_count_1 (by decide) (by decide) (by rfl) rfl ?_
      refine x_aload_n hC 0 rfl dX5_count_48 ?_
      refine x_get hC fl_X5_10 dX5_count_49 0 rfl rfl ?_
      refine x_get hC fl_X5_54 dX5_count_52 1 rfl (v := .int (nI (S 0 0))) (xv hI.n) ?_
      exact x_iret hC hR dX5_count_55 (sp_leaf (by rw [sp_count, if_pos (by decide), show tn (nI 0) = 0 by decide]; rfl) hI)
    · skip
      refine x_tableIn hC 56 dX5_count_1 (by decide) (by decide) (by rfl) rfl ?_
      refine x_aload_n hC 0 rfl dX5_count_56 ?_
      refine x_get hC fl_X5_26 dX5_count_57 0 rfl rfl ?_
      refine x_get hC fl_X5_71 dX5_count_60 3 rfl (v := .int (nI (S 0 3))) (xv hI.chips) ?_
      exact x_iret hC hR dX5_count_63 (sp_leaf (by rw [sp_count, if_pos (by decide), show tn (nI 1) = 1 by decide]; rfl) hI)
    · skip
      refine x_tableIn hC 64 dX5_count_1 (by decide) (by decide) (by rfl) rfl ?_
      refine x_aload_n hC 0 rfl dX5_count_64 ?_
      refine x_get hC fl_X5_19 dX5_count_65 0 rfl rfl ?_
      refine x_get hC fl_X5_110 dX5_count_68 2 rfl (v := .int (nI (S 0 2))) (xv hI.k) ?_
      exact x_iret hC hR dX5_count_71 (sp_leaf (by rw [sp_count, if_pos (by decide), show tn (nI 2) = 2 by decide]; rfl) hI)
    · skip
      refine x_tableIn hC 72 dX5_count_1 (by decide) (by decide) (by rfl) rfl ?_
      refine x_aload_n hC 0 rfl dX5_count_72 ?_
      refine x_get hC fl_X5_10 dX5_count_73 0 rfl rfl ?_
      refine x_callVI hC cw_X5_190 (c_X0_openCells  (n := (S 0 0)) (m := (S 0 1)) hI.n hI.mask hn2) dX5_count_76 [] rfl (Nat.le_of_ble_eq_true rfl) rfl (rm_ok hRm (by decide) (by decide)) 0 1 rfl rfl (fun r76 m76 hp76 => ?_)
      obtain ⟨rfl, rfl⟩ := hp76
      exact x_iret hC hR dX5_count_79 (sp_leaf (by rw [sp_count, if_pos (by decide), show tn (nI 3) = 3 by decide]; rfl) hI)
    · skip
      refine x_tableIn hC 80 dX5_count_1 (by decide) (by decide) (by rfl) rfl ?_
      refine x_aload_n hC 0 rfl dX5_count_80 ?_
      refine x_get hC fl_X5_10 dX5_count_81 0 rfl rfl ?_
      refine x_get hC fl_X5_58 dX5_count_84 1 rfl (v := .int (nI (S 0 1))) (xv hI.mask) ?_
      exact x_iret hC hR dX5_count_87 (sp_leaf (by rw [sp_count, if_pos (by decide), show tn (nI 4) = 4 by decide]; rfl) hI)
    · skip
      refine x_tableIn hC 88 dX5_count_1 (by decide) (by decide) (by rfl) rfl ?_
      refine x_aload_n hC 0 rfl dX5_count_88 ?_
      refine x_get hC fl_X5_26 dX5_count_89 0 rfl rfl ?_
      refine x_callVI hC cw_X5_258 (c_X1_withHelp  (m := (S 0 3)) (hp := (hpS S)) hI.chips hch8 (fun j h => (hI.chip j h).2.1)) dX5_count_92 [] rfl (Nat.le_of_ble_eq_true rfl) rfl (rm_ok hRm (by decide) (by decide)) 1 3 rfl rfl (fun r92 m92 hp92 => ?_)
      obtain ⟨rfl, rfl⟩ := hp92
      exact x_iret hC hR dX5_count_95 (sp_leaf (by rw [sp_count, if_pos (by decide), show tn (nI 5) = 5 by decide]; rfl) hI)
    · skip
      refine x_tableIn hC 96 dX5_count_1 (by decide) (by decide) (by rfl) rfl ?_
      refine x_aload_n hC 0 rfl dX5_count_96 ?_
      refine x_get hC fl_X5_33 dX5_count_97 0 rfl rfl ?_
      refine x_get hC fl_X5_223 dX5_count_100 4 rfl (v := .int (nI (pcnt (S 10)))) (xv hI.pm) ?_
      exact x_iret hC hR dX5_count_103 (sp_leaf (by rw [sp_count, if_pos (by decide), show tn (nI 6) = 6 by decide]; rfl) hI)
    · skip
      refine x_tableIn hC 104 dX5_count_1 (by decide) (by decide) (by rfl) rfl ?_
      refine x_aload_n hC 0 rfl dX5_count_104 ?_
      refine x_get hC fl_X5_33 dX5_count_105 0 rfl rfl ?_
      refine x_callVI hC cw_X5_261 (c_X4_usedOnes  (us := (usS S)) (fun q h => (hI.pair q h).2.2)) dX5_count_108 [] rfl (Nat.le_of_ble_eq_true rfl) rfl (rm_ok hRm (by decide) (by decide)) 4 4 rfl rfl (fun r108 m108 hp108 => ?_)
      obtain ⟨rfl, rfl⟩ := hp108
      exact x_iret hC hR dX5_count_111 (sp_leaf (by rw [sp_count, if_pos (by decide), show tn (nI 7) = 7 by decide]; rfl) hI)
  | false =>
    have ho := isI_out hq
    refine x_tableOut hC 112 dX5_count_1 (by omega) rfl ?_
    refine x_iload_n hC 1 rfl dX5_count_112 ?_
    refine x_bipush hC (v := (nI 10)) dX5_count_113 rfl ?_
    refine x_icmp_le hC 142 dX5_count_115 rfl (fun h115 => ?_) (fun h115 => ?_)
    · -- 115 T
      refine x_bipush hC (v := (zI (-9))) dX5_count_142 rfl ?_
      exact x_iret hC hR dX5_count_144 (sp_leaf (by rw [sp_count, ct_low ho h115]) hI)
    · -- 115 F
      refine x_iload_n hC 1 rfl dX5_count_118 ?_
      refine x_bipush hC (v := (nI 10)) dX5_count_119 rfl ?_
      refine x_aload_n hC 0 rfl dX5_count_121 ?_
      refine x_get hC fl_X5_46 dX5_count_122 0 rfl rfl ?_
      refine x_alen hC 6 0 rfl rfl dX5_count_125 ?_
      refine x_top (y := nI 7) rfl ?_
      refine x_iaddE hC (z := (nI 17)) (by decide) dX5_count_126 ?_
      refine x_icmp_ge hC 142 dX5_count_127 rfl (fun h127 => ?_) (fun h127 => ?_)
      · -- 127 T
        refine x_bipush hC (v := (zI (-9))) dX5_count_142 rfl ?_
        exact x_iret hC hR dX5_count_144 (sp_leaf (by rw [sp_count, if_neg (by rw [isI_big (by decide) h127]; decide)]) hI)
      · -- 127 F
        obtain ⟨v, hv1, hv2, rfl⟩ := cnt_rng h115 h127
        refine x_aload_n hC 0 rfl dX5_count_130 ?_
        refine x_get hC fl_X5_46 dX5_count_131 0 rfl rfl ?_
        refine x_iload_n hC 1 rfl dX5_count_134 ?_
        refine x_bipush hC (v := (nI 10)) dX5_count_135 rfl ?_
        refine x_isubE hC (z := (nI (v - 10))) (pk_sub (by omega)) dX5_count_137 ?_
        refine x_iald hC 6 0 rfl rfl (y := (nI (S 1 (v - 10)))) (by omega) (by decide) (hI.ref (v - 10) (by omega)) dX5_count_138 ?_
        refine x_goto hC 144 dX5_count_139 rfl ?_
        exact x_iret hC hR dX5_count_144 (sp_leaf (by rw [sp_count, if_pos (isI_in (by decide) (by omega)), tn_nI (by omega)]; obtain ⟨w, rfl⟩ : ∃ w, v = w + 11 := ⟨v - 11, by omega⟩; show (nI (S 1 (w + 1)), S) = _; rw [show w + 11 - 10 = w + 1 by omega]) hI)
