/-! pairs and chips -/
theorem chp_comm (S : SS) (x y : Nat) : chp S x y = chp S y x := by unfold chp; rw [Nat.xor_comm]
theorem chd_le (S : SS) (w j : Nat) : chd S w j ≤ 14 := pc_le _
theorem chp_le (S : SS) (x y : Nat) : chp S x y ≤ 14 := pc_le _
theorem mall_0 (d : Nat → Nat → Nat) (x : Nat) : mall d x 0 = x := rfl
theorem mall_1 (d : Nat → Nat → Nat) (x : Nat) : mall d x 1 = x := rfl

set_option maxHeartbeats 4000000 in
set_option maxRecDepth 100000 in
theorem c_X6_pairs {l : Launch} {D : va_G} {c : Nat → ClassId} {b : Nat → Nat} {τ : MM} {A : Nat → Nat} (hA : ∀ q, q < 16 → τ.1 9 q = zI ((A q : Int) - 1)) (hb : ∀ q, q < 16 → A q ≤ 2) : KI l D (tyE c) (mw c b) yX6_pairs cX6_pairs 3 .int (rmL 1) [.ref (b 0)] τ (fun r u => r = nI (pcnt A) ∧ τ = u) := by
  refine x_enterI (by decide) (Nat.le_of_ble_eq_true rfl) (fun F hl hD hn hRm hC hR => ?_)
  subst hl hD
  change XW F 0 0 (mw c b τ) [(0, .ref (b 0))] 0 []
  change FC F cX6_pairs RX6 (tyE c) at hC
  refine x_iconst hC (v := (nI 0)) dX6_pairs_0 rfl ?_
  refine x_istore_n hC [(1, .int (nI 0)), (0, .ref (b 0))] rfl (lt_n hn rfl) dX6_pairs_1 ?_
  refine x_iconst hC (v := (nI 0)) dX6_pairs_2 rfl ?_
  refine x_istore_n hC [(2, .int (nI 0)), (1, .int (nI 0)), (0, .ref (b 0))] rfl (lt_n hn rfl) dX6_pairs_3 ?_
  refine x_lv [2, 1, 0] rfl ?_
  have L4 : ∀ (N4 : Nat) (s : Nat) (i : Nat), 16 - i < N4 → (s = sumN (fun q => if A q ≠ 0 then 1 else 0) i) → (i ≤ 16) → XW F 0 0 (mw c b τ) [(0, .ref (b 0)), (1, .int (nI s)), (2, .int (nI i))] 4 [] := by
    intro N4
    induction N4 with
    | zero => intro s i hN4 hs hi; exact absurd hN4 (by omega)
    | succ N4 ih4 =>
      intro s i hN4 hs hi
      refine x_iload_n hC 2 rfl dX6_pairs_4 ?_
      refine x_bipush hC (v := (nI 16)) dX6_pairs_5 rfl ?_
      refine x_icmp_geN hC 33 dX6_pairs_7 rfl (by omega) (by decide) (fun h7 => ?_) (fun h7 => ?_)
      · -- 7 T
        refine x_iload_n hC 1 rfl dX6_pairs_33 ?_
        exact x_iret hC hR dX6_pairs_34 (⟨by rw [hs, show i = 16 by omega]; rfl, rfl⟩)
      · -- 7 F
        have hpi := hb i (by omega)
        refine x_iload_n hC 1 rfl dX6_pairs_10 ?_
        refine x_aload_n hC 0 rfl dX6_pairs_11 ?_
        refine x_get hC fl_X6_34 dX6_pairs_12 0 rfl rfl ?_
        refine x_iload_n hC 2 rfl dX6_pairs_15 ?_
        refine x_iald hC 9 0 rfl rfl (y := (zI ((A i : Int) - 1))) (by omega) (by decide) (hA i (by omega)) dX6_pairs_16 ?_
        refine x_if_ltZ hC (a := ((A i : Int) - 1)) 24 dX6_pairs_17 rfl (by omega) (fun h17 => ?_) (fun h17 => ?_)
        · -- 17 T
          refine x_iconst hC (v := (nI 0)) dX6_pairs_24 rfl ?_
          refine x_iaddE hC (z := (nI (s + 0))) (nI_add _ _) dX6_pairs_25 ?_
          refine x_istore_n hC [(1, .int (nI (s + 0))), (0, .ref (b 0)), (2, .int (nI i))] rfl (lt_n hn rfl) dX6_pairs_26 ?_
          refine x_iinc hC (z := 1) (v := (nI (i + 1))) 2 rfl (nI_add i 1) [(2, .int (nI (i + 1))), (1, .int (nI (s + 0))), (0, .ref (b 0))] rfl (lt_n hn rfl) dX6_pairs_27 ?_
          refine x_goto hC 4 dX6_pairs_30 rfl ?_
          refine x_lv [2, 1, 0] rfl ?_
          exact ih4 (s + 0) (i + 1) (by omega) (by rw [hs]; show _ = sumN _ i + (if A i ≠ 0 then 1 else 0); rw [if_neg (by omega)]) (by omega)
        · -- 17 F
          refine x_iconst hC (v := (nI 1)) dX6_pairs_20 rfl ?_
          refine x_goto hC 25 dX6_pairs_21 rfl ?_
          refine x_iaddE hC (z := (nI (s + 1))) (nI_add _ _) dX6_pairs_25 ?_
          refine x_istore_n hC [(1, .int (nI (s + 1))), (0, .ref (b 0)), (2, .int (nI i))] rfl (lt_n hn rfl) dX6_pairs_26 ?_
          refine x_iinc hC (z := 1) (v := (nI (i + 1))) 2 rfl (nI_add i 1) [(2, .int (nI (i + 1))), (1, .int (nI (s + 1))), (0, .ref (b 0))] rfl (lt_n hn rfl) dX6_pairs_27 ?_
          refine x_goto hC 4 dX6_pairs_30 rfl ?_
          refine x_lv [2, 1, 0] rfl ?_
          exact ih4 (s + 1) (i + 1) (by omega) (by rw [hs]; show _ = sumN _ i + (if A i ≠ 0 then 1 else 0); rw [if_pos (by omega)]) (by omega)
  exact L4 _ 0 0 (Nat.lt_succ_self _) rfl (by omega)
set_option maxHeartbeats 4000000 in
set_option maxRecDepth 100000 in
theorem c_X6_pair {l : Launch} {D : va_G} {c : Nat → ClassId} {b : Nat → Nat} {τ : MM} {q : Int32} {g : Int32} {S : SS} (hI : MI τ S) (hV : SV S)  : KI l D (tyE c) (mw c b) yX6_pair cX6_pair 3 .int (rmL 2) [.ref (b 0), .int q, .int g] τ (fun r u => r = (sp_pair S q g).1 ∧ MI u (sp_pair S q g).2) := by
  refine x_enterI (by decide) (Nat.le_of_ble_eq_true rfl) (fun F hl hD hn hRm hC hR => ?_)
  subst hl hD
  change XW F 0 0 (mw c b τ) [(0, .ref (b 0)), (1, .int q), (2, .int g)] 0 []
  change FC F cX6_pair RX6 (tyE c) at hC
  have hn1 := hV.n1
  have hn2 := hV.n2
  have hpn := hV.pn
  have hk6 := hV.k
  have hpk := hV.pk
  have hpk1 := SV.pk1 S
  have hch8 := hV.chips
  have hmk := hV.mask
  have hmk31 : S 0 1 < 2 ^ 31 := by omega
  refine x_iload_n hC 1 rfl dX6_pair_0 ?_
  refine x_bipush hC (v := (nI 16)) dX6_pair_1 rfl ?_
  refine x_callN hC cs_X6_73 (c_X6_isIn (x := q) (m := 16)  (by first | assumption | exact hI.mb | omega)) dX6_pair_3 [] rfl (Nat.le_of_ble_eq_true rfl) rfl (rm_ok hRm (by decide) (by decide)) ?_
  refine x_if_eqB hC 17 dX6_pair_6 rfl (fun h6 => ?_) (fun h6 => ?_)
  · -- 6 T
    refine x_aload_n hC 0 rfl dX6_pair_17 ?_
    refine x_iconst hC (v := (zI (-1))) dX6_pair_18 rfl ?_
    refine x_callVI hC cw_X6_94 (c_X6_refuse (z := (-1)) (j := 1) (v := (S 1 1)) (by decide) (by decide) (hI.ref 1 (by decide))) dX6_pair_19 [] rfl (Nat.le_of_ble_eq_true rfl) rfl (rm_ok hRm (by decide) (by decide)) 6 0 rfl rfl (fun r19 m19 hp19 => ?_)
    obtain ⟨rfl, rfl⟩ := hp19
    exact x_iret hC hR dX6_pair_22 (sp_leafM (by simp [sp_pair, h6]) (hI.rfs 1 (by decide)))
  · -- 6 F
    obtain ⟨v, hv, rfl⟩ := isI_T h6
    have tv := tn_nI (v := v) (by omega)
    refine x_iload_n hC 2 rfl dX6_pair_9 ?_
    refine x_iconst hC (v := (nI 2)) dX6_pair_10 rfl ?_
    refine x_callN hC cs_X6_73 (c_X6_isIn (x := g) (m := 2)  (by first | assumption | exact hI.mb | omega)) dX6_pair_11 [] rfl (Nat.le_of_ble_eq_true rfl) rfl (rm_ok hRm (by decide) (by decide)) ?_
    refine x_if_neB hC 23 dX6_pair_14 rfl (fun h14 => ?_) (fun h14 => ?_)
    · -- 14 T
      obtain ⟨y, hy, rfl⟩ := isI_T h14
      have ty := tn_nI (v := y) (by omega)
      have hpv := (hV.pair v hv).1
      refine x_aload_n hC 0 rfl dX6_pair_23 ?_
      refine x_get hC fl_X6_34 dX6_pair_24 0 rfl rfl ?_
      refine x_iload_n hC 1 rfl dX6_pair_27 ?_
      refine x_iald hC 9 0 rfl rfl (y := (zI ((S 10 v : Int) - 1))) (by omega) (by decide) ((hI.pair v (by omega)).1) dX6_pair_28 ?_
      refine x_iconst hC (v := (nI 1)) dX6_pair_29 rfl ?_
      refine x_iload_n hC 2 rfl dX6_pair_30 ?_
      refine x_isubE hC (z := (zI (1 - ((y : Nat) : Int)))) (zI_sub 1 ((y : Nat) : Int)) dX6_pair_31 ?_
      refine x_icmp_neZ hC (a := ((S 10 v : Int) - 1)) (b := (1 - ((y : Nat) : Int))) 42 dX6_pair_32 rfl (by omega) (by omega) (fun h32 => ?_) (fun h32 => ?_)
      · -- 32 T
        have g32 : ¬ (S 10 v ≠ 0 ∧ S 10 v ≠ y + 1) := by omega
        refine x_aload_n hC 0 rfl dX6_pair_42 ?_
        refine x_get hC fl_X6_34 dX6_pair_43 0 rfl rfl ?_
        refine x_iload_n hC 1 rfl dX6_pair_46 ?_
        refine x_iload_n hC 2 rfl dX6_pair_47 ?_
        refine x_iast hC 9 0 rfl rfl (by omega) (by decide) (mw c b (mup τ 9 v (nI y))) rfl dX6_pair_48 ?_
        refine x_aload_n hC 0 rfl dX6_pair_49 ?_
        refine x_callVI hC cw_X6_178 (c_X6_pairs  (A := (sup S 10 v (y + 1) 10)) (fun q h => ((hI.pairc v y).pair q h).1) (fun q h => by show (if q = v then y + 1 else S 10 q) ≤ 2; split; omega; exact (hV.pair q h).1)) dX6_pair_50 [] rfl (Nat.le_of_ble_eq_true rfl) rfl (rm_ok hRm (by decide) (by decide)) 6 0 rfl rfl (fun r50 m50 hp50 => ?_)
        obtain ⟨rfl, rfl⟩ := hp50
        exact x_iret hC hR dX6_pair_53 (sp_leafM (by simp only [sp_pair, h6, h14, tv, ty, and_self, if_true]; rw [if_neg g32]) (hI.pairc v y))
      · -- 32 F
        have g32 : S 10 v ≠ 0 ∧ S 10 v ≠ y + 1 := by omega
        refine x_aload_n hC 0 rfl dX6_pair_35 ?_
        refine x_bipush hC (v := (zI (-3))) dX6_pair_36 rfl ?_
        refine x_callVI hC cw_X6_94 (c_X6_refuse (z := (-3)) (j := 3) (v := (S 1 3)) (by decide) (by decide) (hI.ref 3 (by decide))) dX6_pair_38 [] rfl (Nat.le_of_ble_eq_true rfl) rfl (rm_ok hRm (by decide) (by decide)) 6 0 rfl rfl (fun r38 m38 hp38 => ?_)
        obtain ⟨rfl, rfl⟩ := hp38
        exact x_iret hC hR dX6_pair_41 (sp_leafM (by simp only [sp_pair, h6, h14, tv, ty, and_self, if_true]; rw [if_pos g32]) (hI.rfs 3 (by decide)))
    · -- 14 F
      refine x_aload_n hC 0 rfl dX6_pair_17 ?_
      refine x_iconst hC (v := (zI (-1))) dX6_pair_18 rfl ?_
      refine x_callVI hC cw_X6_94 (c_X6_refuse (z := (-1)) (j := 1) (v := (S 1 1)) (by decide) (by decide) (hI.ref 1 (by decide))) dX6_pair_19 [] rfl (Nat.le_of_ble_eq_true rfl) rfl (rm_ok hRm (by decide) (by decide)) 6 0 rfl rfl (fun r19 m19 hp19 => ?_)
      obtain ⟨rfl, rfl⟩ := hp19
      exact x_iret hC hR dX6_pair_22 (sp_leafM (by simp [sp_pair, h6, h14, tv]) (hI.rfs 1 (by decide)))
set_option maxHeartbeats 4000000 in
set_option maxRecDepth 100000 in
theorem c_X6_check {l : Launch} {D : va_G} {c : Nat → ClassId} {b : Nat → Nat} {τ : MM} {q : Int32} {g : Int32} {S : SS} (hI : MI τ S) (hV : SV S)  : KI l D (tyE c) (mw c b) yX6_check cX6_check 3 .int (rmL 2) [.ref (b 0), .int q, .int g] τ (fun r u => r = (sp_check S q g).1 ∧ MI u (sp_check S q g).2) := by
  refine x_enterI (by decide) (Nat.le_of_ble_eq_true rfl) (fun F hl hD hn hRm hC hR => ?_)
  subst hl hD
  change XW F 0 0 (mw c b τ) [(0, .ref (b 0)), (1, .int q), (2, .int g)] 0 []
  change FC F cX6_check RX6 (tyE c) at hC
  have hn1 := hV.n1
  have hn2 := hV.n2
  have hpn := hV.pn
  have hk6 := hV.k
  have hpk := hV.pk
  have hpk1 := SV.pk1 S
  have hch8 := hV.chips
  have hmk := hV.mask
  have hmk31 : S 0 1 < 2 ^ 31 := by omega
  refine x_iload_n hC 1 rfl dX6_check_0 ?_
  refine x_bipush hC (v := (nI 16)) dX6_check_1 rfl ?_
  refine x_callN hC cs_X6_73 (c_X6_isIn (x := q) (m := 16)  (by first | assumption | exact hI.mb | omega)) dX6_check_3 [] rfl (Nat.le_of_ble_eq_true rfl) rfl (rm_ok hRm (by decide) (by decide)) ?_
  refine x_if_eqB hC 17 dX6_check_6 rfl (fun h6 => ?_) (fun h6 => ?_)
  · -- 6 T
    refine x_aload_n hC 0 rfl dX6_check_17 ?_
    refine x_iconst hC (v := (zI (-1))) dX6_check_18 rfl ?_
    refine x_callVI hC cw_X6_94 (c_X6_refuse (z := (-1)) (j := 1) (v := (S 1 1)) (by decide) (by decide) (hI.ref 1 (by decide))) dX6_check_19 [] rfl (Nat.le_of_ble_eq_true rfl) rfl (rm_ok hRm (by decide) (by decide)) 6 0 rfl rfl (fun r19 m19 hp19 => ?_)
    obtain ⟨rfl, rfl⟩ := hp19
    exact x_iret hC hR dX6_check_22 (sp_leafM (by simp [sp_check, h6]) (hI.rfs 1 (by decide)))
  · -- 6 F
    obtain ⟨v, hv, rfl⟩ := isI_T h6
    have tv := tn_nI (v := v) (by omega)
    refine x_iload_n hC 2 rfl dX6_check_9 ?_
    refine x_iconst hC (v := (nI 2)) dX6_check_10 rfl ?_
    refine x_callN hC cs_X6_73 (c_X6_isIn (x := g) (m := 2)  (by first | assumption | exact hI.mb | omega)) dX6_check_11 [] rfl (Nat.le_of_ble_eq_true rfl) rfl (rm_ok hRm (by decide) (by decide)) ?_
    refine x_if_neB hC 23 dX6_check_14 rfl (fun h14 => ?_) (fun h14 => ?_)
    · -- 14 T
      obtain ⟨y, hy, rfl⟩ := isI_T h14
      have ty := tn_nI (v := y) (by omega)
      have hpv := (hV.pair v hv).1
      refine x_aload_n hC 0 rfl dX6_check_23 ?_
      refine x_get hC fl_X6_34 dX6_check_24 0 rfl rfl ?_
      refine x_iload_n hC 1 rfl dX6_check_27 ?_
      refine x_iald hC 9 0 rfl rfl (y := (zI ((S 10 v : Int) - 1))) (by omega) (by decide) ((hI.pair v (by omega)).1) dX6_check_28 ?_
      refine x_if_ltZ hC (a := ((S 10 v : Int) - 1)) 41 dX6_check_29 rfl (by omega) (fun h29 => ?_) (fun h29 => ?_)
      · -- 29 T
        have g29 : S 10 v = 0 := by omega
        refine x_aload_n hC 0 rfl dX6_check_41 ?_
        refine x_bipush hC (v := (zI (-3))) dX6_check_42 rfl ?_
        refine x_callVI hC cw_X6_94 (c_X6_refuse (z := (-3)) (j := 3) (v := (S 1 3)) (by decide) (by decide) (hI.ref 3 (by decide))) dX6_check_44 [] rfl (Nat.le_of_ble_eq_true rfl) rfl (rm_ok hRm (by decide) (by decide)) 6 0 rfl rfl (fun r44 m44 hp44 => ?_)
        obtain ⟨rfl, rfl⟩ := hp44
        exact x_iret hC hR dX6_check_47 (sp_leafM (by simp [sp_check, h6, h14, g29, tv, ty]) (hI.rfs 3 (by decide)))
      · -- 29 F
        have g29 : ¬ S 10 v = 0 := by omega
        refine x_aload_n hC 0 rfl dX6_check_32 ?_
        refine x_get hC fl_X6_41 dX6_check_33 0 rfl rfl ?_
        refine x_iload_n hC 1 rfl dX6_check_36 ?_
        refine x_zald hC 11 1 rfl rfl (y := (bz (decide (S 11 v = 1)))) (by omega) (by decide) ((hI.pair v (by omega)).2) dX6_check_37 ?_
        refine x_if_eqB hC 48 dX6_check_38 rfl (fun h38 => ?_) (fun h38 => ?_)
        · -- 38 T
          have u38 := of_decide_eq_false h38
          refine x_aload_n hC 0 rfl dX6_check_48 ?_
          refine x_get hC fl_X6_41 dX6_check_49 0 rfl rfl ?_
          refine x_iload_n hC 1 rfl dX6_check_52 ?_
          refine x_iconst hC (v := (nI 1)) dX6_check_53 rfl ?_
          refine x_zast hC 11 1 rfl rfl (by omega) (by decide) rfl (mw c b (mup τ 11 v (nI 1))) rfl dX6_check_54 ?_
          refine x_aload_n hC 0 rfl dX6_check_55 ?_
          refine x_get hC fl_X6_34 dX6_check_56 0 rfl rfl ?_
          refine x_iload_n hC 1 rfl dX6_check_59 ?_
          refine x_iald hC 9 0 rfl rfl (y := (zI ((S 10 v : Int) - 1))) (by omega) (by decide) ((hI.pair v (by omega)).1) dX6_check_60 ?_
          refine x_iload_n hC 2 rfl dX6_check_61 ?_
          refine x_icmp_neZ hC (a := ((S 10 v : Int) - 1)) (b := ((y : Nat) : Int)) 69 dX6_check_62 rfl (by omega) (by omega) (fun h62 => ?_) (fun h62 => ?_)
          · -- 62 T
            have g62 : ¬ S 10 v = y + 1 := by omega
            refine x_iconst hC (v := (nI 0)) dX6_check_69 rfl ?_
            exact x_iret hC hR dX6_check_70 (sp_leafM (by simp [sp_check, h6, h14, g29, u38, g62, tv, ty]) (hI.usec v))
          · -- 62 F
            have g62 : S 10 v = y + 1 := by omega
            refine x_iconst hC (v := (nI 1)) dX6_check_65 rfl ?_
            refine x_goto hC 70 dX6_check_66 rfl ?_
            exact x_iret hC hR dX6_check_70 (sp_leafM (by simp [sp_check, h6, h14, g29, u38, g62, tv, ty]) (hI.usec v))
        · -- 38 F
          have u38 := of_decide_eq_true h38
          refine x_aload_n hC 0 rfl dX6_check_41 ?_
          refine x_bipush hC (v := (zI (-3))) dX6_check_42 rfl ?_
          refine x_callVI hC cw_X6_94 (c_X6_refuse (z := (-3)) (j := 3) (v := (S 1 3)) (by decide) (by decide) (hI.ref 3 (by decide))) dX6_check_44 [] rfl (Nat.le_of_ble_eq_true rfl) rfl (rm_ok hRm (by decide) (by decide)) 6 0 rfl rfl (fun r44 m44 hp44 => ?_)
          obtain ⟨rfl, rfl⟩ := hp44
          exact x_iret hC hR dX6_check_47 (sp_leafM (by simp [sp_check, h6, h14, g29, u38, tv, ty]) (hI.rfs 3 (by decide)))
    · -- 14 F
      refine x_aload_n hC 0 rfl dX6_check_17 ?_
      refine x_iconst hC (v := (zI (-1))) dX6_check_18 rfl ?_
      refine x_callVI hC cw_X6_94 (c_X6_refuse (z := (-1)) (j := 1) (v := (S 1 1)) (by decide) (by decide) (hI.ref 1 (by decide))) dX6_check_19 [] rfl (Nat.le_of_ble_eq_true rfl) rfl (rm_ok hRm (by decide) (by decide)) 6 0 rfl rfl (fun r19 m19 hp19 => ?_)
      obtain ⟨rfl, rfl⟩ := hp19
      exact x_iret hC hR dX6_check_22 (sp_leafM (by simp [sp_check, h6, h14, tv]) (hI.rfs 1 (by decide)))
set_option maxHeartbeats 4000000 in
set_option maxRecDepth 100000 in
theorem c_X6_far {l : Launch} {D : va_G} {c : Nat → ClassId} {b : Nat → Nat} {τ : MM} {x : Nat} {y : Nat} {S : SS} (hI : MI τ S) (hV : SV S)  : KI l D (tyE c) (mw c b) yX6_far cX6_far 3 .int (rmL 2) [.ref (b 0), .int (nI x), .int (nI y)] τ (fun r u => r = nI (pc ((y ^^^ x) &&& opn S)) ∧ τ = u) := by
  refine x_enterI (by decide) (Nat.le_of_ble_eq_true rfl) (fun F hl hD hn hRm hC hR => ?_)
  subst hl hD
  change XW F 0 0 (mw c b τ) [(0, .ref (b 0)), (1, .int (nI x)), (2, .int (nI y))] 0 []
  change FC F cX6_far RX6 (tyE c) at hC
  have hn1 := hV.n1
  have hn2 := hV.n2
  have hpn := hV.pn
  have hk6 := hV.k
  have hpk := hV.pk
  have hpk1 := SV.pk1 S
  have hch8 := hV.chips
  have hmk := hV.mask
  have hmk31 : S 0 1 < 2 ^ 31 := by omega
  refine x_iload_n hC 1 rfl dX6_far_0 ?_
  refine x_iload_n hC 2 rfl dX6_far_1 ?_
  refine x_ixorE hC (z := (nI (y ^^^ x))) ((nI_xor _ _).trans (congrArg nI (Nat.xor_comm _ _))) dX6_far_2 ?_
  refine x_aload_n hC 0 rfl dX6_far_3 ?_
  refine x_callVI hC cw_X6_124 (c_X6_open  (S := S) (by first | assumption | exact hI.mb | omega) (by first | assumption | exact hI.mb | omega)) dX6_far_4 [.int (nI (y ^^^ x))] rfl (Nat.le_of_ble_eq_true rfl) rfl (rm_ok hRm (by decide) (by decide)) 6 0 rfl rfl (fun r4 m4 hp4 => ?_)
  obtain ⟨rfl, rfl⟩ := hp4
  refine x_iandE hC (z := (nI ((y ^^^ x) &&& (opn S)))) (nI_and _ _) dX6_far_7 ?_
  refine x_callN hC cs_X6_131 (c_X6_bits (w := ((y ^^^ x) &&& (opn S)))  (and_lt14 (opn_lt hV))) dX6_far_8 [] rfl (Nat.le_of_ble_eq_true rfl) rfl (rm_ok hRm (by decide) (by decide)) ?_
  exact x_iret hC hR dX6_far_11 (⟨rfl, rfl⟩)
set_option maxHeartbeats 4000000 in
set_option maxRecDepth 100000 in
theorem c_X6_whoseOf {l : Launch} {D : va_G} {c : Nat → ClassId} {b : Nat → Nat} {τ : MM} {w : Nat} {S : SS} (hI : MI τ S) (hV : SV S)  : KI l D (tyE c) (mw c b) yX6_whoseOf cX6_whoseOf 4 .int (rmL 3) [.ref (b 0), .int (nI w)] τ (fun r u => ((S 0 3 = 0 ∧ r = zI (-9)) ∨ (0 < S 0 3 ∧ r = nI (amin (chd S w) (S 0 3)))) ∧ τ = u) := by
  refine x_enterI (by decide) (Nat.le_of_ble_eq_true rfl) (fun F hl hD hn hRm hC hR => ?_)
  subst hl hD
  change XW F 0 0 (mw c b τ) [(0, .ref (b 0)), (1, .int (nI w))] 0 []
  change FC F cX6_whoseOf RX6 (tyE c) at hC
  have hn1 := hV.n1
  have hn2 := hV.n2
  have hpn := hV.pn
  have hk6 := hV.k
  have hpk := hV.pk
  have hpk1 := SV.pk1 S
  have hch8 := hV.chips
  have hmk := hV.mask
  have hmk31 : S 0 1 < 2 ^ 31 := by omega
  have hcl := chd_le S w
  refine x_bipush hC (v := (zI (-9))) dX6_whoseOf_0 rfl ?_
  refine x_istore_n hC [(2, .int (zI (-9))), (0, .ref (b 0)), (1, .int (nI w))] rfl (lt_n hn rfl) dX6_whoseOf_2 ?_
  refine x_iconst hC (v := (nI 0)) dX6_whoseOf_3 rfl ?_
  refine x_istore_n hC [(3, .int (nI 0)), (2, .int (zI (-9))), (0, .ref (b 0)), (1, .int (nI w))] rfl (lt_n hn rfl) dX6_whoseOf_4 ?_
  refine x_lv [2, 3, 1, 0] rfl ?_
  have L5 : ∀ (N5 : Nat) (e : Int) (i : Nat), S 0 3 - i < N5 → (i ≤ S 0 3) → ((i = 0 ∧ e = -9) ∨ (0 < i ∧ e = (amin (chd S w) i : Int))) → XW F 0 0 (mw c b τ) [(0, .ref (b 0)), (1, .int (nI w)), (2, .int (zI e)), (3, .int (nI i))] 5 [] := by
    intro N5
    induction N5 with
    | zero => intro e i hN5 hi hb; exact absurd hN5 (by omega)
    | succ N5 ih5 =>
      intro e i hN5 hi hb
      rcases hb with ⟨rfl, rfl⟩ | ⟨hi0, rfl⟩
      · skip
        change XW F 0 0 (mw c b τ) [(0, .ref (b 0)), (1, .int (nI w)), (2, .int (zI (-9))), (3, .int (nI 0))] 5 []
        refine x_iload_n hC 3 rfl dX6_whoseOf_5 ?_
        refine x_aload_n hC 0 rfl dX6_whoseOf_6 ?_
        refine x_get hC fl_X6_98 dX6_whoseOf_7 0 rfl (v := .int (nI (S 0 3))) (xv hI.chips) ?_
        refine x_icmp_geN hC 50 dX6_whoseOf_10 rfl (by decide) (by omega) (fun h10 => ?_) (fun h10 => ?_)
        · -- 10 T
          refine x_iload_n hC 2 rfl dX6_whoseOf_50 ?_
          exact x_iret hC hR dX6_whoseOf_51 (⟨Or.inl ⟨by omega, rfl⟩, rfl⟩)
        · -- 10 F
          refine x_iload_n hC 2 rfl dX6_whoseOf_13 ?_
          refine x_if_lt_T hC 42 dX6_whoseOf_14 rfl (by decide) ?_
          refine x_iload_n hC 3 rfl dX6_whoseOf_42 ?_
          refine x_istore_n hC [(2, .int (nI 0)), (0, .ref (b 0)), (1, .int (nI w)), (3, .int (nI 0))] rfl (lt_n hn rfl) dX6_whoseOf_43 ?_
          refine x_iinc hC (z := 1) (v := (nI 1)) 3 rfl (rfl) [(3, .int (nI 1)), (2, .int (nI 0)), (0, .ref (b 0)), (1, .int (nI w))] rfl (lt_n hn rfl) dX6_whoseOf_44 ?_
          refine x_goto hC 5 dX6_whoseOf_47 rfl ?_
          refine x_lv [2, 3, 1, 0] rfl ?_
          exact ih5 0 1 (by omega) (by omega) (Or.inr ⟨by omega, by rw [amin_1]; rfl⟩)
      · skip
        change XW F 0 0 (mw c b τ) [(0, .ref (b 0)), (1, .int (nI w)), (2, .int (nI (amin (chd S w) i))), (3, .int (nI i))] 5 []
        refine x_iload_n hC 3 rfl dX6_whoseOf_5 ?_
        refine x_aload_n hC 0 rfl dX6_whoseOf_6 ?_
        refine x_get hC fl_X6_98 dX6_whoseOf_7 0 rfl (v := .int (nI (S 0 3))) (xv hI.chips) ?_
        refine x_icmp_geN hC 50 dX6_whoseOf_10 rfl (by omega) (by omega) (fun h10 => ?_) (fun h10 => ?_)
        · -- 10 T
          refine x_iload_n hC 2 rfl dX6_whoseOf_50 ?_
          exact x_iret hC hR dX6_whoseOf_51 (⟨Or.inr ⟨by omega, by rw [show i = S 0 3 by omega]⟩, rfl⟩)
        · -- 10 F
          have hal := amin_lt (chd S w) hi0
          refine x_iload_n hC 2 rfl dX6_whoseOf_13 ?_
          refine x_if_lt_F hC 42 dX6_whoseOf_14 rfl (by rw [i32_lt, i32_0, nI_toI (by omega)]; omega) ?_
          refine x_aload_n hC 0 rfl dX6_whoseOf_17 ?_
          refine x_iload_n hC 1 rfl dX6_whoseOf_18 ?_
          refine x_aload_n hC 0 rfl dX6_whoseOf_19 ?_
          refine x_get hC fl_X6_22 dX6_whoseOf_20 0 rfl rfl ?_
          refine x_iload_n hC 3 rfl dX6_whoseOf_23 ?_
          refine x_iald hC 5 0 rfl rfl (y := (nI (S 5 i))) (by omega) (by decide) ((hI.chip i (by omega)).1) dX6_whoseOf_24 ?_
          refine x_callVI hC cw_X6_187 (c_X6_far (x := w) (y := (S 5 i)) (S := S) (by first | assumption | exact hI.mb | omega) (by first | assumption | exact hI.mb | omega)) dX6_whoseOf_25 [] rfl (Nat.le_of_ble_eq_true rfl) rfl (rm_ok hRm (by decide) (by decide)) 6 0 rfl rfl (fun r25 m25 hp25 => ?_)
          obtain ⟨rfl, rfl⟩ := hp25
          refine x_top (x := (nI (pc (((S 5 i) ^^^ w) &&& opn S)))) (y := (nI (chd S w i))) (rfl) ?_
          refine x_aload_n hC 0 rfl dX6_whoseOf_28 ?_
          refine x_iload_n hC 1 rfl dX6_whoseOf_29 ?_
          refine x_aload_n hC 0 rfl dX6_whoseOf_30 ?_
          refine x_get hC fl_X6_22 dX6_whoseOf_31 0 rfl rfl ?_
          refine x_iload_n hC 2 rfl dX6_whoseOf_34 ?_
          refine x_iald hC 5 0 rfl rfl (y := (nI (S 5 (amin (chd S w) i)))) (by omega) (by decide) ((hI.chip (amin (chd S w) i) (by omega)).1) dX6_whoseOf_35 ?_
          refine x_callVI hC cw_X6_187 (c_X6_far (x := w) (y := (S 5 (amin (chd S w) i))) (S := S) (by first | assumption | exact hI.mb | omega) (by first | assumption | exact hI.mb | omega)) dX6_whoseOf_36 [.int (nI (chd S w i))] rfl (Nat.le_of_ble_eq_true rfl) rfl (rm_ok hRm (by decide) (by decide)) 6 0 rfl rfl (fun r36 m36 hp36 => ?_)
          obtain ⟨rfl, rfl⟩ := hp36
          refine x_top (x := (nI (pc (((S 5 (amin (chd S w) i)) ^^^ w) &&& opn S)))) (y := (nI (chd S w (amin (chd S w) i)))) (rfl) ?_
          refine x_icmp_geN hC 44 dX6_whoseOf_39 rfl (by have := hcl i; omega) (by have := hcl (amin (chd S w) i); omega) (fun h39 => ?_) (fun h39 => ?_)
          · -- 39 T
            refine x_iinc hC (z := 1) (v := (nI (i + 1))) 3 rfl (nI_add i 1) [(3, .int (nI (i + 1))), (0, .ref (b 0)), (1, .int (nI w)), (2, .int (nI (amin (chd S w) i)))] rfl (lt_n hn rfl) dX6_whoseOf_44 ?_
            refine x_goto hC 5 dX6_whoseOf_47 rfl ?_
            refine x_lv [1, 2, 3, 0] rfl ?_
            exact ih5 (((amin (chd S w) i) : Nat) : Int) (i + 1) (by omega) (by omega) (Or.inr ⟨by omega, by rw [amin_S, if_neg (Nat.not_lt.mpr h39)]⟩)
          · -- 39 F
            refine x_iload_n hC 3 rfl dX6_whoseOf_42 ?_
            refine x_istore_n hC [(2, .int (nI i)), (0, .ref (b 0)), (1, .int (nI w)), (3, .int (nI i))] rfl (lt_n hn rfl) dX6_whoseOf_43 ?_
            refine x_iinc hC (z := 1) (v := (nI (i + 1))) 3 rfl (nI_add i 1) [(3, .int (nI (i + 1))), (2, .int (nI i)), (0, .ref (b 0)), (1, .int (nI w))] rfl (lt_n hn rfl) dX6_whoseOf_44 ?_
            refine x_goto hC 5 dX6_whoseOf_47 rfl ?_
            refine x_lv [2, 3, 1, 0] rfl ?_
            exact ih5 ((i : Nat) : Int) (i + 1) (by omega) (by omega) (Or.inr ⟨by omega, by rw [amin_S, if_pos h39]⟩)
  exact L5 _ (-9) 0 (Nat.lt_succ_self _) (by omega) (Or.inl ⟨rfl, rfl⟩)
set_option maxHeartbeats 4000000 in
set_option maxRecDepth 100000 in
theorem c_X6_whose {l : Launch} {D : va_G} {c : Nat → ClassId} {b : Nat → Nat} {τ : MM} {x : Int32} {S : SS} (hI : MI τ S) (hV : SV S)  : KI l D (tyE c) (mw c b) yX6_whose cX6_whose 2 .int (rmL 4) [.ref (b 0), .int x] τ (fun r u => r = (sp_whose S x).1 ∧ MI u (sp_whose S x).2) := by
  refine x_enterI (by decide) (Nat.le_of_ble_eq_true rfl) (fun F hl hD hn hRm hC hR => ?_)
  subst hl hD
  change XW F 0 0 (mw c b τ) [(0, .ref (b 0)), (1, .int x)] 0 []
  change FC F cX6_whose RX6 (tyE c) at hC
  have hn1 := hV.n1
  have hn2 := hV.n2
  have hpn := hV.pn
  have hk6 := hV.k
  have hpk := hV.pk
  have hpk1 := SV.pk1 S
  have hch8 := hV.chips
  have hmk := hV.mask
  have hmk31 : S 0 1 < 2 ^ 31 := by omega
  refine x_aload_n hC 0 rfl dX6_whose_0 ?_
  refine x_iload_n hC 1 rfl dX6_whose_1 ?_
  refine x_callVI hC cw_X6_104 (c_X6_isWord (x := x) (S := S) (by first | assumption | exact hI.mb | omega) (by first | assumption | exact hI.mb | omega)) dX6_whose_2 [] rfl (Nat.le_of_ble_eq_true rfl) rfl (rm_ok hRm (by decide) (by decide)) 6 0 rfl rfl (fun r2 m2 hp2 => ?_)
  obtain ⟨rfl, rfl⟩ := hp2
  refine x_if_eqB hC 16 dX6_whose_5 rfl (fun h5 => ?_) (fun h5 => ?_)
  · -- 5 T
    refine x_aload_n hC 0 rfl dX6_whose_16 ?_
    refine x_iconst hC (v := (zI (-1))) dX6_whose_17 rfl ?_
    refine x_callVI hC cw_X6_94 (c_X6_refuse (z := (-1)) (j := 1) (v := (S 1 1)) (by decide) (by decide) (hI.ref 1 (by decide))) dX6_whose_18 [] rfl (Nat.le_of_ble_eq_true rfl) rfl (rm_ok hRm (by decide) (by decide)) 6 0 rfl rfl (fun r18 m18 hp18 => ?_)
    obtain ⟨rfl, rfl⟩ := hp18
    exact x_iret hC hR dX6_whose_21 (sp_leafM (by simp [sp_whose, h5]) (hI.rfs 1 (by decide)))
  · -- 5 F
    obtain ⟨v, hv, rfl⟩ := isI_T h5
    have tv := tn_nI (v := v) (by omega)
    refine x_aload_n hC 0 rfl dX6_whose_8 ?_
    refine x_iload_n hC 1 rfl dX6_whose_9 ?_
    refine x_callVI hC cw_X6_190 (c_X6_whoseOf (w := v) (S := S) (by first | assumption | exact hI.mb | omega) (by first | assumption | exact hI.mb | omega)) dX6_whose_10 [] rfl (Nat.le_of_ble_eq_true rfl) rfl (rm_ok hRm (by decide) (by decide)) 6 0 rfl rfl (fun r10 m10 hp10 => ?_)
    obtain ⟨hqhp10, rfl⟩ := hp10
    rcases hqhp10 with ⟨hm0, rfl⟩ | ⟨hm0, rfl⟩
    · skip
      refine x_goto hC 21 dX6_whose_13 rfl ?_
      exact x_iret hC hR dX6_whose_21 (sp_leafM (by simp only [sp_whose, h5, tv, if_true]; rw [if_pos (by omega)]) hI)
    · skip
      refine x_goto hC 21 dX6_whose_13 rfl ?_
      exact x_iret hC hR dX6_whose_21 (sp_leafM (by simp only [sp_whose, h5, tv, if_true]; rw [if_neg (by omega)]) hI)
set_option maxHeartbeats 4000000 in
set_option maxRecDepth 100000 in
theorem c_X6_sure {l : Launch} {D : va_G} {c : Nat → ClassId} {b : Nat → Nat} {τ : MM} {x : Int32} {S : SS} (hI : MI τ S) (hV : SV S)  : KI l D (tyE c) (mw c b) yX6_sure cX6_sure 5 .int (rmL 4) [.ref (b 0), .int x] τ (fun r u => r = (sp_sure S x).1 ∧ MI u (sp_sure S x).2) := by
  refine x_enterI (by decide) (Nat.le_of_ble_eq_true rfl) (fun F hl hD hn hRm hC hR => ?_)
  subst hl hD
  change XW F 0 0 (mw c b τ) [(0, .ref (b 0)), (1, .int x)] 0 []
  change FC F cX6_sure RX6 (tyE c) at hC
  have hn1 := hV.n1
  have hn2 := hV.n2
  have hpn := hV.pn
  have hk6 := hV.k
  have hpk := hV.pk
  have hpk1 := SV.pk1 S
  have hch8 := hV.chips
  have hmk := hV.mask
  have hmk31 : S 0 1 < 2 ^ 31 := by omega
  refine x_aload_n hC 0 rfl dX6_sure_0 ?_
  refine x_iload_n hC 1 rfl dX6_sure_1 ?_
  refine x_callVI hC cw_X6_104 (c_X6_isWord (x := x) (S := S) (by first | assumption | exact hI.mb | omega) (by first | assumption | exact hI.mb | omega)) dX6_sure_2 [] rfl (Nat.le_of_ble_eq_true rfl) rfl (rm_ok hRm (by decide) (by decide)) 6 0 rfl rfl (fun r2 m2 hp2 => ?_)
  obtain ⟨rfl, rfl⟩ := hp2
  refine x_if_neB hC 14 dX6_sure_5 rfl (fun h5 => ?_) (fun h5 => ?_)
  · -- 5 T
    obtain ⟨v, hv, rfl⟩ := isI_T h5
    have tv := tn_nI (v := v) (by omega)
    refine x_aload_n hC 0 rfl dX6_sure_14 ?_
    refine x_iload_n hC 1 rfl dX6_sure_15 ?_
    refine x_callVI hC cw_X6_190 (c_X6_whoseOf (w := v) (S := S) (by first | assumption | exact hI.mb | omega) (by first | assumption | exact hI.mb | omega)) dX6_sure_16 [] rfl (Nat.le_of_ble_eq_true rfl) rfl (rm_ok hRm (by decide) (by decide)) 6 0 rfl rfl (fun r16 m16 hp16 => ?_)
    obtain ⟨hqhp16, rfl⟩ := hp16
    rcases hqhp16 with ⟨hm0, rfl⟩ | ⟨hm0, rfl⟩
    · skip
      refine x_istore_n hC [(2, .int (zI (-9))), (0, .ref (b 0)), (1, .int (nI v))] rfl (lt_n hn rfl) dX6_sure_19 ?_
      refine x_iload_n hC 0 rfl dX6_sure_20 ?_
      refine x_if_lt_T hC 28 dX6_sure_21 rfl (by decide) ?_
      refine x_iconst hC (v := (nI 0)) dX6_sure_28 rfl ?_
      refine x_istore_n hC [(3, .int (nI 0)), (2, .int (zI (-9))), (0, .ref (b 0)), (1, .int (nI v))] rfl (lt_n hn rfl) dX6_sure_29 ?_
      refine x_iconst hC (v := (nI 0)) dX6_sure_30 rfl ?_
      refine x_istore hC [(4, .int (nI 0)), (3, .int (nI 0)), (2, .int (zI (-9))), (0, .ref (b 0)), (1, .int (nI v))] rfl (lt_n hn rfl) dX6_sure_31 ?_
      refine x_iload hC 0 rfl dX6_sure_33 ?_
      refine x_aload_n hC 3 rfl dX6_sure_35 ?_
      refine x_get hC fl_X6_98 dX6_sure_36 0 rfl (v := .int (nI (S 0 3))) (xv hI.chips) ?_
      refine x_icmp_ge_T hC 92 dX6_sure_39 rfl (by rw [hm0]; decide) ?_
      refine x_iload_n hC 1 rfl dX6_sure_92 ?_
      refine x_if_eq_T hC 100 dX6_sure_93 rfl (by decide) ?_
      refine x_iconst hC (v := (nI 0)) dX6_sure_100 rfl ?_
      exact x_iret hC hR dX6_sure_101 (sp_leafM (by simp only [sp_sure, h5, tv, if_true]; rw [lone, hm0]; rfl) hI)
    · skip
      refine x_istore_n hC [(2, .int (nI (amin (chd S v) (S 0 3)))), (0, .ref (b 0)), (1, .int (nI v))] rfl (lt_n hn rfl) dX6_sure_19 ?_
      refine x_iload_n hC 0 rfl dX6_sure_20 ?_
      refine x_if_lt_F hC 28 dX6_sure_21 rfl (by have := amin_lt (chd S v) hm0; rw [i32_lt, i32_0, nI_toI (by omega)]; omega) ?_
      refine x_iconst hC (v := (nI 1)) dX6_sure_24 rfl ?_
      refine x_goto hC 29 dX6_sure_25 rfl ?_
      refine x_istore_n hC [(3, .int (nI 1)), (2, .int (nI (amin (chd S v) (S 0 3)))), (0, .ref (b 0)), (1, .int (nI v))] rfl (lt_n hn rfl) dX6_sure_29 ?_
      refine x_iconst hC (v := (nI 0)) dX6_sure_30 rfl ?_
      refine x_istore hC [(4, .int (nI 0)), (3, .int (nI 1)), (2, .int (nI (amin (chd S v) (S 0 3)))), (0, .ref (b 0)), (1, .int (nI v))] rfl (lt_n hn rfl) dX6_sure_31 ?_
      refine x_lv [3, 4, 2, 1, 0] rfl ?_
      have L33 : ∀ (N33 : Nat) (is : Bool) (i : Nat), S 0 3 - i < N33 → (i ≤ S 0 3) → (is = allN (fun j => decide (j = amin (chd S v) (S 0 3) ∨ (chd S v) (amin (chd S v) (S 0 3)) + 3 ≤ (chd S v) j)) i) → XW F 0 0 (mw c b τ) [(0, .ref (b 0)), (1, .int (nI v)), (2, .int (nI (amin (chd S v) (S 0 3)))), (3, .int (bz is)), (4, .int (nI i))] 33 [] := by
        intro N33
        induction N33 with
        | zero => intro is i hN33 hi his; exact absurd hN33 (by omega)
        | succ N33 ih33 =>
          intro is i hN33 hi his
          have hal := amin_lt (chd S v) hm0
          refine x_iload hC 4 rfl dX6_sure_33 ?_
          refine x_aload_n hC 0 rfl dX6_sure_35 ?_
          refine x_get hC fl_X6_98 dX6_sure_36 0 rfl (v := .int (nI (S 0 3))) (xv hI.chips) ?_
          refine x_icmp_geN hC 92 dX6_sure_39 rfl (by omega) (by omega) (fun h39 => ?_) (fun h39 => ?_)
          · -- 39 T
            refine x_iload_n hC 3 rfl dX6_sure_92 ?_
            refine x_if_eqB hC 100 dX6_sure_93 rfl (fun h93 => ?_) (fun h93 => ?_)
            · -- 93 T
              refine x_iconst hC (v := (nI 0)) dX6_sure_100 rfl ?_
              exact x_iret hC hR dX6_sure_101 (sp_leafM (by simp only [sp_sure, h5, tv, if_true]; rw [lone, show allN _ (S 0 3) = is by rw [his, show i = S 0 3 by omega], h93, decide_eq_true hm0]; rfl) hI)
            · -- 93 F
              refine x_iconst hC (v := (nI 1)) dX6_sure_96 rfl ?_
              refine x_goto hC 101 dX6_sure_97 rfl ?_
              exact x_iret hC hR dX6_sure_101 (sp_leafM (by simp only [sp_sure, h5, tv, if_true]; rw [lone, show allN _ (S 0 3) = is by rw [his, show i = S 0 3 by omega], h93, decide_eq_true hm0]; rfl) hI)
          · -- 39 F
            refine x_iload_n hC 3 rfl dX6_sure_42 ?_
            refine x_if_eqB hC 84 dX6_sure_43 rfl (fun h43 => ?_) (fun h43 => ?_)
            · -- 43 T
              refine x_iconst hC (v := (nI 0)) dX6_sure_84 rfl ?_
              refine x_istore_n hC [(3, .int (nI 0)), (0, .ref (b 0)), (1, .int (nI v)), (2, .int (nI (amin (chd S v) (S 0 3)))), (4, .int (nI i))] rfl (lt_n hn rfl) dX6_sure_85 ?_
              refine x_iinc hC (z := 1) (v := (nI (i + 1))) 4 rfl (nI_add i 1) [(4, .int (nI (i + 1))), (3, .int (nI 0)), (0, .ref (b 0)), (1, .int (nI v)), (2, .int (nI (amin (chd S v) (S 0 3))))] rfl (lt_n hn rfl) dX6_sure_86 ?_
              refine x_goto hC 33 dX6_sure_89 rfl ?_
              refine x_lv [2, 3, 4, 1, 0] rfl ?_
              exact ih33 false (i + 1) (by omega) (by omega) (by rw [show allN (fun j => decide (j = amin (chd S v) (S 0 3) ∨ (chd S v) (amin (chd S v) (S 0 3)) + 3 ≤ (chd S v) j)) (i + 1) = (allN (fun j => decide (j = amin (chd S v) (S 0 3) ∨ (chd S v) (amin (chd S v) (S 0 3)) + 3 ≤ (chd S v) j)) i && (fun j => decide (j = amin (chd S v) (S 0 3) ∨ (chd S v) (amin (chd S v) (S 0 3)) + 3 ≤ (chd S v) j)) i) from rfl, ← his, h43]; rfl)
            · -- 43 F
              refine x_iload hC 4 rfl dX6_sure_46 ?_
              refine x_iload_n hC 2 rfl dX6_sure_48 ?_
              refine x_icmp_eqN hC 80 dX6_sure_49 rfl (by omega) (by have := amin_lt (chd S v) hm0; omega) (fun h49 => ?_) (fun h49 => ?_)
              · -- 49 T
                refine x_iconst hC (v := (nI 1)) dX6_sure_80 rfl ?_
                refine x_goto hC 85 dX6_sure_81 rfl ?_
                refine x_istore_n hC [(3, .int (nI 1)), (0, .ref (b 0)), (1, .int (nI v)), (2, .int (nI (amin (chd S v) (S 0 3)))), (4, .int (nI i))] rfl (lt_n hn rfl) dX6_sure_85 ?_
                refine x_iinc hC (z := 1) (v := (nI (i + 1))) 4 rfl (nI_add i 1) [(4, .int (nI (i + 1))), (3, .int (nI 1)), (0, .ref (b 0)), (1, .int (nI v)), (2, .int (nI (amin (chd S v) (S 0 3))))] rfl (lt_n hn rfl) dX6_sure_86 ?_
                refine x_goto hC 33 dX6_sure_89 rfl ?_
                refine x_lv [2, 3, 4, 1, 0] rfl ?_
                exact ih33 true (i + 1) (by omega) (by omega) (by rw [show allN (fun j => decide (j = amin (chd S v) (S 0 3) ∨ (chd S v) (amin (chd S v) (S 0 3)) + 3 ≤ (chd S v) j)) (i + 1) = (allN (fun j => decide (j = amin (chd S v) (S 0 3) ∨ (chd S v) (amin (chd S v) (S 0 3)) + 3 ≤ (chd S v) j)) i && (fun j => decide (j = amin (chd S v) (S 0 3) ∨ (chd S v) (amin (chd S v) (S 0 3)) + 3 ≤ (chd S v) j)) i) from rfl, ← his, h43, Bool.true_and]; exact (decide_eq_true (Or.inl h49)).symm)
              · -- 49 F
                refine x_aload_n hC 0 rfl dX6_sure_52 ?_
                refine x_iload_n hC 1 rfl dX6_sure_53 ?_
                refine x_aload_n hC 0 rfl dX6_sure_54 ?_
                refine x_get hC fl_X6_22 dX6_sure_55 0 rfl rfl ?_
                refine x_iload hC 4 rfl dX6_sure_58 ?_
                refine x_iald hC 5 0 rfl rfl (y := (nI (S 5 i))) (by omega) (by decide) ((hI.chip i (by omega)).1) dX6_sure_60 ?_
                refine x_callVI hC cw_X6_187 (c_X6_far (x := v) (y := (S 5 i)) (S := S) (by first | assumption | exact hI.mb | omega) (by first | assumption | exact hI.mb | omega)) dX6_sure_61 [] rfl (Nat.le_of_ble_eq_true rfl) rfl (rm_ok hRm (by decide) (by decide)) 6 0 rfl rfl (fun r61 m61 hp61 => ?_)
                obtain ⟨rfl, rfl⟩ := hp61
                refine x_top (x := (nI (pc (((S 5 i) ^^^ v) &&& opn S)))) (y := (nI (chd S v i))) (rfl) ?_
                refine x_aload_n hC 0 rfl dX6_sure_64 ?_
                refine x_iload_n hC 1 rfl dX6_sure_65 ?_
                refine x_aload_n hC 0 rfl dX6_sure_66 ?_
                refine x_get hC fl_X6_22 dX6_sure_67 0 rfl rfl ?_
                refine x_iload_n hC 2 rfl dX6_sure_70 ?_
                refine x_iald hC 5 0 rfl rfl (y := (nI (S 5 (amin (chd S v) (S 0 3))))) (by have := amin_lt (chd S v) hm0; omega) (by decide) ((hI.chip (amin (chd S v) (S 0 3)) (by omega)).1) dX6_sure_71 ?_
                refine x_callVI hC cw_X6_187 (c_X6_far (x := v) (y := (S 5 (amin (chd S v) (S 0 3)))) (S := S) (by first | assumption | exact hI.mb | omega) (by first | assumption | exact hI.mb | omega)) dX6_sure_72 [.int (nI (chd S v i))] rfl (Nat.le_of_ble_eq_true rfl) rfl (rm_ok hRm (by decide) (by decide)) 6 0 rfl rfl (fun r72 m72 hp72 => ?_)
                obtain ⟨rfl, rfl⟩ := hp72
                refine x_top (x := (nI (pc (((S 5 (amin (chd S v) (S 0 3))) ^^^ v) &&& opn S)))) (y := (nI (chd S v (amin (chd S v) (S 0 3))))) (rfl) ?_
                refine x_iconst hC (v := (nI 2)) dX6_sure_75 rfl ?_
                refine x_iaddE hC (z := (nI ((chd S v (amin (chd S v) (S 0 3))) + 2))) (nI_add _ _) dX6_sure_76 ?_
                refine x_icmp_leN hC 84 dX6_sure_77 rfl (by have := chd_le S v i; omega) (by have := chd_le S v (amin (chd S v) (S 0 3)); omega) (fun h77 => ?_) (fun h77 => ?_)
                · -- 77 T
                  refine x_iconst hC (v := (nI 0)) dX6_sure_84 rfl ?_
                  refine x_istore_n hC [(3, .int (nI 0)), (0, .ref (b 0)), (1, .int (nI v)), (2, .int (nI (amin (chd S v) (S 0 3)))), (4, .int (nI i))] rfl (lt_n hn rfl) dX6_sure_85 ?_
                  refine x_iinc hC (z := 1) (v := (nI (i + 1))) 4 rfl (nI_add i 1) [(4, .int (nI (i + 1))), (3, .int (nI 0)), (0, .ref (b 0)), (1, .int (nI v)), (2, .int (nI (amin (chd S v) (S 0 3))))] rfl (lt_n hn rfl) dX6_sure_86 ?_
                  refine x_goto hC 33 dX6_sure_89 rfl ?_
                  refine x_lv [2, 3, 4, 1, 0] rfl ?_
                  exact ih33 false (i + 1) (by omega) (by omega) (by rw [show allN (fun j => decide (j = amin (chd S v) (S 0 3) ∨ (chd S v) (amin (chd S v) (S 0 3)) + 3 ≤ (chd S v) j)) (i + 1) = (allN (fun j => decide (j = amin (chd S v) (S 0 3) ∨ (chd S v) (amin (chd S v) (S 0 3)) + 3 ≤ (chd S v) j)) i && (fun j => decide (j = amin (chd S v) (S 0 3) ∨ (chd S v) (amin (chd S v) (S 0 3)) + 3 ≤ (chd S v) j)) i) from rfl, ← his, h43, Bool.true_and]; exact (decide_eq_false (fun q => by rcases q with q | q; exact h49 q; omega)).symm)
                · -- 77 F
                  refine x_iconst hC (v := (nI 1)) dX6_sure_80 rfl ?_
                  refine x_goto hC 85 dX6_sure_81 rfl ?_
                  refine x_istore_n hC [(3, .int (nI 1)), (0, .ref (b 0)), (1, .int (nI v)), (2, .int (nI (amin (chd S v) (S 0 3)))), (4, .int (nI i))] rfl (lt_n hn rfl) dX6_sure_85 ?_
                  refine x_iinc hC (z := 1) (v := (nI (i + 1))) 4 rfl (nI_add i 1) [(4, .int (nI (i + 1))), (3, .int (nI 1)), (0, .ref (b 0)), (1, .int (nI v)), (2, .int (nI (amin (chd S v) (S 0 3))))] rfl (lt_n hn rfl) dX6_sure_86 ?_
                  refine x_goto hC 33 dX6_sure_89 rfl ?_
                  refine x_lv [2, 3, 4, 1, 0] rfl ?_
                  exact ih33 true (i + 1) (by omega) (by omega) (by rw [show allN (fun j => decide (j = amin (chd S v) (S 0 3) ∨ (chd S v) (amin (chd S v) (S 0 3)) + 3 ≤ (chd S v) j)) (i + 1) = (allN (fun j => decide (j = amin (chd S v) (S 0 3) ∨ (chd S v) (amin (chd S v) (S 0 3)) + 3 ≤ (chd S v) j)) i && (fun j => decide (j = amin (chd S v) (S 0 3) ∨ (chd S v) (amin (chd S v) (S 0 3)) + 3 ≤ (chd S v) j)) i) from rfl, ← his, h43, Bool.true_and]; exact (decide_eq_true (Or.inr (by omega))).symm)
      exact L33 _ true 0 (Nat.lt_succ_self _) (by omega) rfl
  · -- 5 F
    refine x_aload_n hC 0 rfl dX6_sure_8 ?_
    refine x_iconst hC (v := (zI (-1))) dX6_sure_9 rfl ?_
    refine x_callVI hC cw_X6_94 (c_X6_refuse (z := (-1)) (j := 1) (v := (S 1 1)) (by decide) (by decide) (hI.ref 1 (by decide))) dX6_sure_10 [] rfl (Nat.le_of_ble_eq_true rfl) rfl (rm_ok hRm (by decide) (by decide)) 6 0 rfl rfl (fun r10 m10 hp10 => ?_)
    obtain ⟨rfl, rfl⟩ := hp10
    exact x_iret hC hR dX6_sure_13 (sp_leafM (by simp [sp_sure, h5]) (hI.rfs 1 (by decide)))
set_option maxHeartbeats 4000000 in
set_option maxRecDepth 100000 in
theorem c_X6_apart {l : Launch} {D : va_G} {c : Nat → ClassId} {b : Nat → Nat} {τ : MM} {S : SS} (hI : MI τ S) (hV : SV S)  : KI l D (tyE c) (mw c b) yX6_apart cX6_apart 4 .int (rmL 3) [.ref (b 0)] τ (fun r u => r = (sp_apart S).1 ∧ MI u (sp_apart S).2) := by
  refine x_enterI (by decide) (Nat.le_of_ble_eq_true rfl) (fun F hl hD hn hRm hC hR => ?_)
  subst hl hD
  change XW F 0 0 (mw c b τ) [(0, .ref (b 0))] 0 []
  change FC F cX6_apart RX6 (tyE c) at hC
  have hn1 := hV.n1
  have hn2 := hV.n2
  have hpn := hV.pn
  have hk6 := hV.k
  have hpk := hV.pk
  have hpk1 := SV.pk1 S
  have hch8 := hV.chips
  have hmk := hV.mask
  have hmk31 : S 0 1 < 2 ^ 31 := by omega
  have hml := fun i j => Nat.le_trans (mrow_le (chp S i) (mall (chp S) 14 i) j) (mall_le (chp S) 14 i)
  refine x_bipush hC (v := (zI (-9))) dX6_apart_0 rfl ?_
  refine x_istore_n hC [(1, .int (zI (-9))), (0, .ref (b 0))] rfl (lt_n hn rfl) dX6_apart_2 ?_
  refine x_iconst hC (v := (nI 0)) dX6_apart_3 rfl ?_
  refine x_istore_n hC [(2, .int (nI 0)), (1, .int (zI (-9))), (0, .ref (b 0))] rfl (lt_n hn rfl) dX6_apart_4 ?_
  refine x_lv [2, 1, 0] rfl ?_
  have L5 : ∀ (N5 : Nat) (e : Int) (i : Nat), S 0 3 - i < N5 → (i ≤ S 0 3) → ((i ≤ 1 ∧ e = -9) ∨ (2 ≤ i ∧ e = (mall (chp S) 14 i : Int))) → XW F 0 0 (mw c b τ) [(0, .ref (b 0)), (1, .int (zI e)), (2, .int (nI i))] 5 [] := by
    intro N5
    induction N5 with
    | zero => intro e i hN5 hi hb; exact absurd hN5 (by omega)
    | succ N5 ih5 =>
      intro e i hN5 hi hb
      refine x_iload_n hC 2 rfl dX6_apart_5 ?_
      refine x_aload_n hC 0 rfl dX6_apart_6 ?_
      refine x_get hC fl_X6_98 dX6_apart_7 0 rfl (v := .int (nI (S 0 3))) (xv hI.chips) ?_
      refine x_icmp_geN hC 73 dX6_apart_10 rfl (by omega) (by omega) (fun h10 => ?_) (fun h10 => ?_)
      · -- 10 T
        refine x_iload_n hC 1 rfl dX6_apart_73 ?_
        exact x_iret hC hR dX6_apart_74 (sp_leafM (by rw [sp_apart]; rcases hb with ⟨q1, q2⟩ | ⟨q1, q2⟩; rw [if_pos (by omega), q2]; rw [if_neg (by omega), q2, show i = S 0 3 by omega]; rfl) hI)
      · -- 10 F
        refine x_iconst hC (v := (nI 0)) dX6_apart_13 rfl ?_
        refine x_istore_n hC [(3, .int (nI 0)), (0, .ref (b 0)), (1, .int (zI e)), (2, .int (nI i))] rfl (lt_n hn rfl) dX6_apart_14 ?_
        refine x_lv [1, 2, 3, 0] rfl ?_
        have L15 : ∀ (N15 : Nat) (ev : Int) (j : Nat), i - j < N15 → (j ≤ i) → ((i ≤ 1 ∧ j = 0 ∧ ev = -9) ∨ ((2 ≤ i ∨ 0 < j) ∧ ev = (mrow (chp S i) (mall (chp S) 14 i) j : Int))) → XW F 0 0 (mw c b τ) [(0, .ref (b 0)), (1, .int (zI ev)), (2, .int (nI i)), (3, .int (nI j))] 15 [] := by
          intro N15
          induction N15 with
          | zero => intro ev j hN15 hj hv; exact absurd hN15 (by omega)
          | succ N15 ih15 =>
            intro ev j hN15 hj hv
            refine x_iload_n hC 3 rfl dX6_apart_15 ?_
            refine x_iload_n hC 2 rfl dX6_apart_16 ?_
            refine x_icmp_geN hC 67 dX6_apart_17 rfl (by omega) (by omega) (fun h17 => ?_) (fun h17 => ?_)
            · -- 17 T
              refine x_iinc hC (z := 1) (v := (nI (i + 1))) 2 rfl (nI_add i 1) [(2, .int (nI (i + 1))), (0, .ref (b 0)), (1, .int (zI ev)), (3, .int (nI j))] rfl (lt_n hn rfl) dX6_apart_67 ?_
              refine x_goto hC 5 dX6_apart_70 rfl ?_
              refine x_lv [1, 2, 0] rfl ?_
              exact ih5 ev (i + 1) (by omega) (by omega) (by rcases hv with ⟨hv1, q1, q2⟩ | ⟨hv1, q2⟩; exact Or.inl ⟨by omega, q2⟩; exact Or.inr ⟨by omega, by rw [q2, show j = i by omega]; rfl⟩)
            · -- 17 F
              rcases hv with ⟨hv1, rfl, rfl⟩ | ⟨hv1, rfl⟩
              · skip
                change XW F 0 0 (mw c b τ) [(0, .ref (b 0)), (1, .int (zI (-9))), (2, .int (nI i)), (3, .int (nI 0))] 20 []
                refine x_iload_n hC 1 rfl dX6_apart_20 ?_
                refine x_if_lt_T hC 44 dX6_apart_21 rfl (by decide) ?_
                refine x_aload_n hC 0 rfl dX6_apart_44 ?_
                refine x_aload_n hC 0 rfl dX6_apart_45 ?_
                refine x_get hC fl_X6_22 dX6_apart_46 0 rfl rfl ?_
                refine x_iload_n hC 2 rfl dX6_apart_49 ?_
                refine x_iald hC 5 0 rfl rfl (y := (nI (S 5 i))) (by omega) (by decide) ((hI.chip i (by omega)).1) dX6_apart_50 ?_
                refine x_aload_n hC 0 rfl dX6_apart_51 ?_
                refine x_get hC fl_X6_22 dX6_apart_52 0 rfl rfl ?_
                refine x_iload_n hC 3 rfl dX6_apart_55 ?_
                refine x_iald hC 5 0 rfl rfl (y := (nI (S 5 0))) (by decide) (by decide) ((hI.chip 0 (by omega)).1) dX6_apart_56 ?_
                refine x_callVI hC cw_X6_187 (c_X6_far (x := (S 5 i)) (y := (S 5 0)) (S := S) (by first | assumption | exact hI.mb | omega) (by first | assumption | exact hI.mb | omega)) dX6_apart_57 [] rfl (Nat.le_of_ble_eq_true rfl) rfl (rm_ok hRm (by decide) (by decide)) 6 0 rfl rfl (fun r57 m57 hp57 => ?_)
                obtain ⟨rfl, rfl⟩ := hp57
                refine x_top (x := (nI (pc (((S 5 0) ^^^ (S 5 i)) &&& opn S)))) (y := (nI (chp S i 0))) (congrArg nI (chp_comm S _ _)) ?_
                refine x_istore_n hC [(1, .int (nI (chp S i 0))), (0, .ref (b 0)), (2, .int (nI i)), (3, .int (nI 0))] rfl (lt_n hn rfl) dX6_apart_60 ?_
                refine x_iinc hC (z := 1) (v := (nI 1)) 3 rfl (rfl) [(3, .int (nI 1)), (1, .int (nI (chp S i 0))), (0, .ref (b 0)), (2, .int (nI i))] rfl (lt_n hn rfl) dX6_apart_61 ?_
                refine x_goto hC 15 dX6_apart_64 rfl ?_
                refine x_lv [2, 1, 3, 0] rfl ?_
                exact ih15 (((chp S i 0) : Nat) : Int) 1 (by omega) (by omega) (Or.inr ⟨by omega, by rw [show mrow (chp S i) (mall (chp S) 14 i) (0 + 1) = min (mall (chp S) 14 i) (chp S i 0) from rfl, show i = 1 by omega, mall_1, Nat.min_eq_right (chp_le S 1 0)]⟩)
              · skip
                change XW F 0 0 (mw c b τ) [(0, .ref (b 0)), (1, .int (nI (mrow (chp S i) (mall (chp S) 14 i) j))), (2, .int (nI i)), (3, .int (nI j))] 20 []
                refine x_iload_n hC 1 rfl dX6_apart_20 ?_
                refine x_if_lt_F hC 44 dX6_apart_21 rfl (by have := hml i j; rw [i32_lt, i32_0, nI_toI (by omega)]; omega) ?_
                refine x_aload_n hC 0 rfl dX6_apart_24 ?_
                refine x_aload_n hC 0 rfl dX6_apart_25 ?_
                refine x_get hC fl_X6_22 dX6_apart_26 0 rfl rfl ?_
                refine x_iload_n hC 2 rfl dX6_apart_29 ?_
                refine x_iald hC 5 0 rfl rfl (y := (nI (S 5 i))) (by omega) (by decide) ((hI.chip i (by omega)).1) dX6_apart_30 ?_
                refine x_aload_n hC 0 rfl dX6_apart_31 ?_
                refine x_get hC fl_X6_22 dX6_apart_32 0 rfl rfl ?_
                refine x_iload_n hC 3 rfl dX6_apart_35 ?_
                refine x_iald hC 5 0 rfl rfl (y := (nI (S 5 j))) (by omega) (by decide) ((hI.chip j (by omega)).1) dX6_apart_36 ?_
                refine x_callVI hC cw_X6_187 (c_X6_far (x := (S 5 i)) (y := (S 5 j)) (S := S) (by first | assumption | exact hI.mb | omega) (by first | assumption | exact hI.mb | omega)) dX6_apart_37 [] rfl (Nat.le_of_ble_eq_true rfl) rfl (rm_ok hRm (by decide) (by decide)) 6 0 rfl rfl (fun r37 m37 hp37 => ?_)
                obtain ⟨rfl, rfl⟩ := hp37
                refine x_top (x := (nI (pc (((S 5 j) ^^^ (S 5 i)) &&& opn S)))) (y := (nI (chp S i j))) (congrArg nI (chp_comm S _ _)) ?_
                refine x_iload_n hC 1 rfl dX6_apart_40 ?_
                refine x_icmp_geN hC 61 dX6_apart_41 rfl (by have := chp_le S i j; omega) (by have := hml i j; omega) (fun h41 => ?_) (fun h41 => ?_)
                · -- 41 T
                  refine x_iinc hC (z := 1) (v := (nI (j + 1))) 3 rfl (nI_add j 1) [(3, .int (nI (j + 1))), (0, .ref (b 0)), (1, .int (nI (mrow (chp S i) (mall (chp S) 14 i) j))), (2, .int (nI i))] rfl (lt_n hn rfl) dX6_apart_61 ?_
                  refine x_goto hC 15 dX6_apart_64 rfl ?_
                  refine x_lv [1, 2, 3, 0] rfl ?_
                  exact ih15 (((mrow (chp S i) (mall (chp S) 14 i) j) : Nat) : Int) (j + 1) (by omega) (by omega) (Or.inr ⟨by omega, by rw [show mrow (chp S i) (mall (chp S) 14 i) (j + 1) = min (mrow (chp S i) (mall (chp S) 14 i) j) (chp S i j) from rfl, Nat.min_eq_left (by omega)]⟩)
                · -- 41 F
                  refine x_aload_n hC 0 rfl dX6_apart_44 ?_
                  refine x_aload_n hC 0 rfl dX6_apart_45 ?_
                  refine x_get hC fl_X6_22 dX6_apart_46 0 rfl rfl ?_
                  refine x_iload_n hC 2 rfl dX6_apart_49 ?_
                  refine x_iald hC 5 0 rfl rfl (y := (nI (S 5 i))) (by omega) (by decide) ((hI.chip i (by omega)).1) dX6_apart_50 ?_
                  refine x_aload_n hC 0 rfl dX6_apart_51 ?_
                  refine x_get hC fl_X6_22 dX6_apart_52 0 rfl rfl ?_
                  refine x_iload_n hC 3 rfl dX6_apart_55 ?_
                  refine x_iald hC 5 0 rfl rfl (y := (nI (S 5 j))) (by omega) (by decide) ((hI.chip j (by omega)).1) dX6_apart_56 ?_
                  refine x_callVI hC cw_X6_187 (c_X6_far (x := (S 5 i)) (y := (S 5 j)) (S := S) (by first | assumption | exact hI.mb | omega) (by first | assumption | exact hI.mb | omega)) dX6_apart_57 [] rfl (Nat.le_of_ble_eq_true rfl) rfl (rm_ok hRm (by decide) (by decide)) 6 0 rfl rfl (fun r57 m57 hp57 => ?_)
                  obtain ⟨rfl, rfl⟩ := hp57
                  refine x_top (x := (nI (pc (((S 5 j) ^^^ (S 5 i)) &&& opn S)))) (y := (nI (chp S i j))) (congrArg nI (chp_comm S _ _)) ?_
                  refine x_istore_n hC [(1, .int (nI (chp S i j))), (0, .ref (b 0)), (2, .int (nI i)), (3, .int (nI j))] rfl (lt_n hn rfl) dX6_apart_60 ?_
                  refine x_iinc hC (z := 1) (v := (nI (j + 1))) 3 rfl (nI_add j 1) [(3, .int (nI (j + 1))), (1, .int (nI (chp S i j))), (0, .ref (b 0)), (2, .int (nI i))] rfl (lt_n hn rfl) dX6_apart_61 ?_
                  refine x_goto hC 15 dX6_apart_64 rfl ?_
                  refine x_lv [2, 1, 3, 0] rfl ?_
                  exact ih15 (((chp S i j) : Nat) : Int) (j + 1) (by omega) (by omega) (Or.inr ⟨by omega, by rw [show mrow (chp S i) (mall (chp S) 14 i) (j + 1) = min (mrow (chp S i) (mall (chp S) 14 i) j) (chp S i j) from rfl, Nat.min_eq_right (by omega)]⟩)
        exact L15 _ e 0 (Nat.lt_succ_self _) (by omega) (by rcases hb with ⟨q1, q2⟩ | ⟨q1, q2⟩; exact Or.inl ⟨q1, rfl, q2⟩; exact Or.inr ⟨Or.inl q1, q2⟩)
  exact L5 _ (-9) 0 (Nat.lt_succ_self _) (by omega) (Or.inl ⟨by omega, rfl⟩)
set_option maxHeartbeats 4000000 in
set_option maxRecDepth 100000 in
theorem c_X6_odd {l : Launch} {D : va_G} {c : Nat → ClassId} {b : Nat → Nat} {τ : MM} {x : Int32} {S : SS} (hI : MI τ S) (hV : SV S)  : KI l D (tyE c) (mw c b) yX6_odd cX6_odd 4 .int (rmL 2) [.ref (b 0), .int x] τ (fun r u => r = (sp_odd S x).1 ∧ MI u (sp_odd S x).2) := by
  refine x_enterI (by decide) (Nat.le_of_ble_eq_true rfl) (fun F hl hD hn hRm hC hR => ?_)
  subst hl hD
  change XW F 0 0 (mw c b τ) [(0, .ref (b 0)), (1, .int x)] 0 []
  change FC F cX6_odd RX6 (tyE c) at hC
  have hn1 := hV.n1
  have hn2 := hV.n2
  have hpn := hV.pn
  have hk6 := hV.k
  have hpk := hV.pk
  have hpk1 := SV.pk1 S
  have hch8 := hV.chips
  have hmk := hV.mask
  have hmk31 : S 0 1 < 2 ^ 31 := by omega
  refine x_iload_n hC 1 rfl dX6_odd_0 ?_
  refine x_aload_n hC 0 rfl dX6_odd_1 ?_
  refine x_get hC fl_X6_44 dX6_odd_2 0 rfl (v := .int (nI (S 0 0))) (xv hI.n) ?_
  refine x_callN hC cs_X6_73 (c_X6_isIn (x := x) (m := (S 0 0))  (by first | assumption | exact hI.mb | omega)) dX6_odd_5 [] rfl (Nat.le_of_ble_eq_true rfl) rfl (rm_ok hRm (by decide) (by decide)) ?_
  refine x_if_neB hC 17 dX6_odd_8 rfl (fun h8 => ?_) (fun h8 => ?_)
  · -- 8 T
    obtain ⟨v, hv, rfl⟩ := isI_T h8
    have tv := tn_nI (v := v) (by omega)
    refine x_iconst hC (v := (nI 0)) dX6_odd_17 rfl ?_
    refine x_istore_n hC [(2, .int (nI 0)), (0, .ref (b 0)), (1, .int (nI v))] rfl (lt_n hn rfl) dX6_odd_18 ?_
    refine x_iconst hC (v := (nI 0)) dX6_odd_19 rfl ?_
    refine x_istore_n hC [(3, .int (nI 0)), (2, .int (nI 0)), (0, .ref (b 0)), (1, .int (nI v))] rfl (lt_n hn rfl) dX6_odd_20 ?_
    refine x_lv [2, 3, 1, 0] rfl ?_
    have L21 : ∀ (N21 : Nat) (s : Nat) (i : Nat), S 0 3 - i < N21 → (s = sumN (fun j => bt (S 5 j) v) i) → (i ≤ S 0 3) → XW F 0 0 (mw c b τ) [(0, .ref (b 0)), (1, .int (nI v)), (2, .int (nI s)), (3, .int (nI i))] 21 [] := by
      intro N21
      induction N21 with
      | zero => intro s i hN21 hs hi; exact absurd hN21 (by omega)
      | succ N21 ih21 =>
        intro s i hN21 hs hi
        refine x_iload_n hC 3 rfl dX6_odd_21 ?_
        refine x_aload_n hC 0 rfl dX6_odd_22 ?_
        refine x_get hC fl_X6_98 dX6_odd_23 0 rfl (v := .int (nI (S 0 3))) (xv hI.chips) ?_
        refine x_icmp_geN hC 48 dX6_odd_26 rfl (by omega) (by omega) (fun h26 => ?_) (fun h26 => ?_)
        · -- 26 T
          refine x_iload_n hC 2 rfl dX6_odd_48 ?_
          exact x_iret hC hR dX6_odd_49 (sp_leafM (by simp only [sp_odd, h8, tv, if_true]; rw [hs, show i = S 0 3 by omega]) hI)
        · -- 26 F
          refine x_iload_n hC 2 rfl dX6_odd_29 ?_
          refine x_aload_n hC 0 rfl dX6_odd_30 ?_
          refine x_get hC fl_X6_22 dX6_odd_31 0 rfl rfl ?_
          refine x_iload_n hC 3 rfl dX6_odd_34 ?_
          refine x_iald hC 5 0 rfl rfl (y := (nI (S 5 i))) (by omega) (by decide) ((hI.chip i (by omega)).1) dX6_odd_35 ?_
          refine x_iload_n hC 1 rfl dX6_odd_36 ?_
          refine x_ishrE hC (z := (nI ((S 5 i) / 2 ^ v))) (nI_shr (by have := (hV.chip i (by omega)).1; omega) (by omega)) dX6_odd_37 ?_
          refine x_iconst hC (v := (nI 1)) dX6_odd_38 rfl ?_
          refine x_iandE hC (z := (nI (bt (S 5 i) v))) (nI_and1 _) dX6_odd_39 ?_
          refine x_iaddE hC (z := (nI (s + (bt (S 5 i) v)))) (nI_add _ _) dX6_odd_40 ?_
          refine x_istore_n hC [(2, .int (nI (s + (bt (S 5 i) v)))), (0, .ref (b 0)), (1, .int (nI v)), (3, .int (nI i))] rfl (lt_n hn rfl) dX6_odd_41 ?_
          refine x_iinc hC (z := 1) (v := (nI (i + 1))) 3 rfl (nI_add i 1) [(3, .int (nI (i + 1))), (2, .int (nI (s + (bt (S 5 i) v)))), (0, .ref (b 0)), (1, .int (nI v))] rfl (lt_n hn rfl) dX6_odd_42 ?_
          refine x_goto hC 21 dX6_odd_45 rfl ?_
          refine x_lv [2, 3, 1, 0] rfl ?_
          exact ih21 (s + (bt (S 5 i) v)) (i + 1) (by omega) (by rw [hs]; rfl) (by omega)
    exact L21 _ 0 0 (Nat.lt_succ_self _) rfl (by omega)
  · -- 8 F
    refine x_aload_n hC 0 rfl dX6_odd_11 ?_
    refine x_iconst hC (v := (zI (-1))) dX6_odd_12 rfl ?_
    refine x_callVI hC cw_X6_94 (c_X6_refuse (z := (-1)) (j := 1) (v := (S 1 1)) (by decide) (by decide) (hI.ref 1 (by decide))) dX6_odd_13 [] rfl (Nat.le_of_ble_eq_true rfl) rfl (rm_ok hRm (by decide) (by decide)) 6 0 rfl rfl (fun r13 m13 hp13 => ?_)
    obtain ⟨rfl, rfl⟩ := hp13
    exact x_iret hC hR dX6_odd_16 (sp_leafM (by simp [sp_odd, h8]) (hI.rfs 1 (by decide)))
set_option maxHeartbeats 4000000 in
set_option maxRecDepth 100000 in
theorem c_X6_count {l : Launch} {D : va_G} {c : Nat → ClassId} {b : Nat → Nat} {τ : MM} {x : Int32} {S : SS} (hI : MI τ S) (hV : SV S)  : KI l D (tyE c) (mw c b) yX6_count cX6_count 4 .int (rmL 2) [.ref (b 0), .int x] τ (fun r u => r = (sp_count S x).1 ∧ MI u (sp_count S x).2) := by
  refine x_enterI (by decide) (Nat.le_of_ble_eq_true rfl) (fun F hl hD hn hRm hC hR => ?_)
  subst hl hD
  change XW F 0 0 (mw c b τ) [(0, .ref (b 0)), (1, .int x)] 0 []
  change FC F cX6_count RX6 (tyE c) at hC
  have hn1 := hV.n1
  have hn2 := hV.n2
  have hpn := hV.pn
  have hk6 := hV.k
  have hpk := hV.pk
  have hpk1 := SV.pk1 S
  have hch8 := hV.chips
  have hmk := hV.mask
  have hmk31 : S 0 1 < 2 ^ 31 := by omega
  refine x_iload_n hC 1 rfl dX6_count_0 ?_
  refine x_bipush hC (v := (nI 10)) dX6_count_1 rfl ?_
  refine x_icmp_le hC 22 dX6_count_3 rfl (fun h3 => ?_) (fun h3 => ?_)
  · -- 3 T
    refine x_iconst hC (v := (nI 0)) dX6_count_22 rfl ?_
    refine x_istore_n hC [(2, .int (nI 0)), (0, .ref (b 0)), (1, .int x)] rfl (lt_n hn rfl) dX6_count_23 ?_
    refine x_iload_n hC 2 rfl dX6_count_24 ?_
    cases hq : isI 8 x with
    | true =>
      obtain ⟨v, hv, rfl⟩ := isI_T hq
      obtain rfl | rfl | rfl | rfl | rfl | rfl | rfl | rfl : v = 0 ∨ v = 1 ∨ v = 2 ∨ v = 3 ∨ v = 4 ∨ v = 5 ∨ v = 6 ∨ v = 7 := by omega
      · skip
        refine x_tableIn hC 72 dX6_count_25 (by decide) (by decide) (by rfl) rfl ?_
        refine x_aload_n hC 1 rfl dX6_count_72 ?_
        refine x_get hC fl_X6_44 dX6_count_73 0 rfl (v := .int (nI (S 0 0))) (xv hI.n) ?_
        exact x_iret hC hR dX6_count_76 (sp_leafM (by rw [sp_count, if_pos (by decide), show tn (nI 0) = 0 by decide]; rfl) hI)
      · skip
        refine x_tableIn hC 77 dX6_count_25 (by decide) (by decide) (by rfl) rfl ?_
        refine x_aload_n hC 1 rfl dX6_count_77 ?_
        refine x_get hC fl_X6_98 dX6_count_78 0 rfl (v := .int (nI (S 0 3))) (xv hI.chips) ?_
        exact x_iret hC hR dX6_count_81 (sp_leafM (by rw [sp_count, if_pos (by decide), show tn (nI 1) = 1 by decide]; rfl) hI)
      · skip
        refine x_tableIn hC 82 dX6_count_25 (by decide) (by decide) (by rfl) rfl ?_
        refine x_aload_n hC 1 rfl dX6_count_82 ?_
        refine x_get hC fl_X6_80 dX6_count_83 0 rfl (v := .int (nI (S 0 2))) (xv hI.k) ?_
        exact x_iret hC hR dX6_count_86 (sp_leafM (by rw [sp_count, if_pos (by decide), show tn (nI 2) = 2 by decide]; rfl) hI)
      · skip
        refine x_tableIn hC 87 dX6_count_25 (by decide) (by decide) (by rfl) rfl ?_
        refine x_aload_n hC 1 rfl dX6_count_87 ?_
        refine x_callVI hC cw_X6_124 (c_X6_open  (S := S) (by first | assumption | exact hI.mb | omega) (by first | assumption | exact hI.mb | omega)) dX6_count_88 [] rfl (Nat.le_of_ble_eq_true rfl) rfl (rm_ok hRm (by decide) (by decide)) 6 0 rfl rfl (fun r88 m88 hp88 => ?_)
        obtain ⟨rfl, rfl⟩ := hp88
        refine x_callN hC cs_X6_131 (c_X6_bits (w := (opn S))  (opn_lt hV)) dX6_count_91 [] rfl (Nat.le_of_ble_eq_true rfl) rfl (rm_ok hRm (by decide) (by decide)) ?_
        exact x_iret hC hR dX6_count_94 (sp_leafM (by rw [sp_count, if_pos (by decide), show tn (nI 3) = 3 by decide]; rfl) hI)
      · skip
        refine x_tableIn hC 95 dX6_count_25 (by decide) (by decide) (by rfl) rfl ?_
        refine x_aload_n hC 1 rfl dX6_count_95 ?_
        refine x_get hC fl_X6_77 dX6_count_96 0 rfl (v := .int (nI (S 0 1))) (xv hI.mask) ?_
        exact x_iret hC hR dX6_count_99 (sp_leafM (by rw [sp_count, if_pos (by decide), show tn (nI 4) = 4 by decide]; rfl) hI)
      · skip
        refine x_tableIn hC 100 dX6_count_25 (by decide) (by decide) (by rfl) rfl ?_
        refine x_iconst hC (v := (nI 0)) dX6_count_100 rfl ?_
        refine x_istore_n hC [(3, .int (nI 0)), (2, .int (nI 0)), (0, .ref (b 0)), (1, .int (nI 5))] rfl (lt_n hn rfl) dX6_count_101 ?_
        refine x_lv [2, 1, 0] rfl ?_
        have L102 : ∀ (N102 : Nat) (s : Nat) (i : Nat), S 0 3 - i < N102 → (s = sumN (fun j => if hpS S j then 1 else 0) i) → (i ≤ S 0 3) → XW F 0 0 (mw c b τ) [(0, .ref (b 0)), (2, .int (nI s)), (3, .int (nI i))] 102 [] := by
          intro N102
          induction N102 with
          | zero => intro s i hN102 hs hi; exact absurd hN102 (by omega)
          | succ N102 ih102 =>
            intro s i hN102 hs hi
            refine x_iload_n hC 2 rfl dX6_count_102 ?_
            refine x_aload_n hC 0 rfl dX6_count_103 ?_
            refine x_get hC fl_X6_98 dX6_count_104 0 rfl (v := .int (nI (S 0 3))) (xv hI.chips) ?_
            refine x_icmp_geN hC 133 dX6_count_107 rfl (by omega) (by omega) (fun h107 => ?_) (fun h107 => ?_)
            · -- 107 T
              refine x_iload_n hC 1 rfl dX6_count_133 ?_
              exact x_iret hC hR dX6_count_134 (sp_leafM (by rw [sp_count, if_pos (by decide), show tn (nI 5) = 5 by decide]; rw [hs, show i = S 0 3 by omega]; rfl) hI)
            · -- 107 F
              refine x_iload_n hC 1 rfl dX6_count_110 ?_
              refine x_aload_n hC 0 rfl dX6_count_111 ?_
              refine x_get hC fl_X6_37 dX6_count_112 0 rfl rfl ?_
              refine x_iload_n hC 2 rfl dX6_count_115 ?_
              refine x_zald hC 10 1 rfl rfl (y := (bz (decide (S 6 i = 1)))) (by omega) (by decide) ((hI.chip i (by omega)).2.1) dX6_count_116 ?_
              refine x_if_eqB hC 124 dX6_count_117 rfl (fun h117 => ?_) (fun h117 => ?_)
              · -- 117 T
                refine x_iconst hC (v := (nI 0)) dX6_count_124 rfl ?_
                refine x_iaddE hC (z := (nI (s + 0))) (nI_add _ _) dX6_count_125 ?_
                refine x_istore_n hC [(2, .int (nI (s + 0))), (0, .ref (b 0)), (3, .int (nI i))] rfl (lt_n hn rfl) dX6_count_126 ?_
                refine x_iinc hC (z := 1) (v := (nI (i + 1))) 2 rfl (nI_add i 1) [(3, .int (nI (i + 1))), (2, .int (nI (s + 0))), (0, .ref (b 0))] rfl (lt_n hn rfl) dX6_count_127 ?_
                refine x_goto hC 102 dX6_count_130 rfl ?_
                refine x_lv [2, 1, 0] rfl ?_
                exact ih102 (s + 0) (i + 1) (by omega) (by rw [hs]; simp [sumN, hpS, h117]) (by omega)
              · -- 117 F
                refine x_iconst hC (v := (nI 1)) dX6_count_120 rfl ?_
                refine x_goto hC 125 dX6_count_121 rfl ?_
                refine x_iaddE hC (z := (nI (s + 1))) (nI_add _ _) dX6_count_125 ?_
                refine x_istore_n hC [(2, .int (nI (s + 1))), (0, .ref (b 0)), (3, .int (nI i))] rfl (lt_n hn rfl) dX6_count_126 ?_
                refine x_iinc hC (z := 1) (v := (nI (i + 1))) 2 rfl (nI_add i 1) [(3, .int (nI (i + 1))), (2, .int (nI (s + 1))), (0, .ref (b 0))] rfl (lt_n hn rfl) dX6_count_127 ?_
                refine x_goto hC 102 dX6_count_130 rfl ?_
                refine x_lv [2, 1, 0] rfl ?_
                exact ih102 (s + 1) (i + 1) (by omega) (by rw [hs]; simp [sumN, hpS, h117]) (by omega)
        exact L102 _ 0 0 (Nat.lt_succ_self _) rfl (by omega)
      · skip
        refine x_tableIn hC 135 dX6_count_25 (by decide) (by decide) (by rfl) rfl ?_
        refine x_aload_n hC 1 rfl dX6_count_135 ?_
        refine x_callVI hC cw_X6_178 (c_X6_pairs  (A := (S 10)) (fun q h => (hI.pair q h).1) (fun q h => (hV.pair q h).1)) dX6_count_136 [] rfl (Nat.le_of_ble_eq_true rfl) rfl (rm_ok hRm (by decide) (by decide)) 6 0 rfl rfl (fun r136 m136 hp136 => ?_)
        obtain ⟨rfl, rfl⟩ := hp136
        exact x_iret hC hR dX6_count_139 (sp_leafM (by rw [sp_count, if_pos (by decide), show tn (nI 6) = 6 by decide]; rfl) hI)
      · skip
        refine x_tableIn hC 140 dX6_count_25 (by decide) (by decide) (by rfl) rfl ?_
        refine x_iconst hC (v := (nI 0)) dX6_count_140 rfl ?_
        refine x_istore_n hC [(3, .int (nI 0)), (2, .int (nI 0)), (0, .ref (b 0)), (1, .int (nI 7))] rfl (lt_n hn rfl) dX6_count_141 ?_
        refine x_lv [2, 1, 0] rfl ?_
        have L142 : ∀ (N142 : Nat) (s : Nat) (i : Nat), 16 - i < N142 → (s = sumN (fun j => if usS S j then 1 else 0) i) → (i ≤ 16) → XW F 0 0 (mw c b τ) [(0, .ref (b 0)), (2, .int (nI s)), (3, .int (nI i))] 142 [] := by
          intro N142
          induction N142 with
          | zero => intro s i hN142 hs hi; exact absurd hN142 (by omega)
          | succ N142 ih142 =>
            intro s i hN142 hs hi
            refine x_iload_n hC 2 rfl dX6_count_142 ?_
            refine x_bipush hC (v := (nI 16)) dX6_count_143 rfl ?_
            refine x_icmp_geN hC 171 dX6_count_145 rfl (by omega) (by decide) (fun h145 => ?_) (fun h145 => ?_)
            · -- 145 T
              refine x_iload_n hC 1 rfl dX6_count_171 ?_
              exact x_iret hC hR dX6_count_172 (sp_leafM (by rw [sp_count, if_pos (by decide), show tn (nI 7) = 7 by decide]; rw [hs, show i = 16 by omega]; rfl) hI)
            · -- 145 F
              refine x_iload_n hC 1 rfl dX6_count_148 ?_
              refine x_aload_n hC 0 rfl dX6_count_149 ?_
              refine x_get hC fl_X6_41 dX6_count_150 0 rfl rfl ?_
              refine x_iload_n hC 2 rfl dX6_count_153 ?_
              refine x_zald hC 11 1 rfl rfl (y := (bz (decide (S 11 i = 1)))) (by omega) (by decide) ((hI.pair i (by omega)).2) dX6_count_154 ?_
              refine x_if_eqB hC 162 dX6_count_155 rfl (fun h155 => ?_) (fun h155 => ?_)
              · -- 155 T
                refine x_iconst hC (v := (nI 0)) dX6_count_162 rfl ?_
                refine x_iaddE hC (z := (nI (s + 0))) (nI_add _ _) dX6_count_163 ?_
                refine x_istore_n hC [(2, .int (nI (s + 0))), (0, .ref (b 0)), (3, .int (nI i))] rfl (lt_n hn rfl) dX6_count_164 ?_
                refine x_iinc hC (z := 1) (v := (nI (i + 1))) 2 rfl (nI_add i 1) [(3, .int (nI (i + 1))), (2, .int (nI (s + 0))), (0, .ref (b 0))] rfl (lt_n hn rfl) dX6_count_165 ?_
                refine x_goto hC 142 dX6_count_168 rfl ?_
                refine x_lv [2, 1, 0] rfl ?_
                exact ih142 (s + 0) (i + 1) (by omega) (by rw [hs]; simp [sumN, usS, h155]) (by omega)
              · -- 155 F
                refine x_iconst hC (v := (nI 1)) dX6_count_158 rfl ?_
                refine x_goto hC 163 dX6_count_159 rfl ?_
                refine x_iaddE hC (z := (nI (s + 1))) (nI_add _ _) dX6_count_163 ?_
                refine x_istore_n hC [(2, .int (nI (s + 1))), (0, .ref (b 0)), (3, .int (nI i))] rfl (lt_n hn rfl) dX6_count_164 ?_
                refine x_iinc hC (z := 1) (v := (nI (i + 1))) 2 rfl (nI_add i 1) [(3, .int (nI (i + 1))), (2, .int (nI (s + 1))), (0, .ref (b 0))] rfl (lt_n hn rfl) dX6_count_165 ?_
                refine x_goto hC 142 dX6_count_168 rfl ?_
                refine x_lv [2, 1, 0] rfl ?_
                exact ih142 (s + 1) (i + 1) (by omega) (by rw [hs]; simp [sumN, usS, h155]) (by omega)
        exact L142 _ 0 0 (Nat.lt_succ_self _) rfl (by omega)
    | false =>
      have ho := isI_out hq
      refine x_tableOut hC 173 dX6_count_25 (by omega) rfl ?_
      refine x_bipush hC (v := (zI (-9))) dX6_count_173 rfl ?_
      exact x_iret hC hR dX6_count_175 (sp_leafM (by rw [sp_count, ct_low ho h3]) hI)
  · -- 3 F
    refine x_iload_n hC 1 rfl dX6_count_6 ?_
    refine x_bipush hC (v := (nI 17)) dX6_count_7 rfl ?_
    refine x_icmp_ge hC 22 dX6_count_9 rfl (fun h9 => ?_) (fun h9 => ?_)
    · -- 9 T
      refine x_iconst hC (v := (nI 0)) dX6_count_22 rfl ?_
      refine x_istore_n hC [(2, .int (nI 0)), (0, .ref (b 0)), (1, .int x)] rfl (lt_n hn rfl) dX6_count_23 ?_
      refine x_iload_n hC 2 rfl dX6_count_24 ?_
      have ho : (7 : Int) < x.toInt := by rw [i32_le, nI_toI (by decide)] at h9; omega
      refine x_tableOut hC 173 dX6_count_25 (Or.inr ho) rfl ?_
      refine x_bipush hC (v := (zI (-9))) dX6_count_173 rfl ?_
      exact x_iret hC hR dX6_count_175 (sp_leafM (by rw [sp_count, if_neg (by rw [isI_big (by decide) h9]; decide)]) hI)
    · -- 9 F
      obtain ⟨v, hv1, hv2, rfl⟩ := cnt_rng h3 h9
      refine x_aload_n hC 0 rfl dX6_count_12 ?_
      refine x_get hC fl_X6_7 dX6_count_13 0 rfl rfl ?_
      refine x_iload_n hC 1 rfl dX6_count_16 ?_
      refine x_bipush hC (v := (nI 10)) dX6_count_17 rfl ?_
      refine x_isubE hC (z := (nI (v - 10))) (pk_sub (by omega)) dX6_count_19 ?_
      refine x_iald hC 1 0 rfl rfl (y := (nI (S 1 (v - 10)))) (by omega) (by decide) (hI.ref (v - 10) (by omega)) dX6_count_20 ?_
      exact x_iret hC hR dX6_count_21 (sp_leafM (by rw [sp_count, if_pos (isI_in (by decide) (by omega)), tn_nI (by omega)]; obtain ⟨w, rfl⟩ : ∃ w, v = w + 11 := ⟨v - 11, by omega⟩; show (nI (S 1 (w + 1)), S) = _; rw [show w + 11 - 10 = w + 1 by omega]) hI)
