section LawLoop
variable {F : FX} {c : Nat → ClassId} {sb L : Nat} {xs : Nat → Int32}
set_option maxHeartbeats 2000000 in
theorem la_loop (h : LC F c sb L xs) (hst : (fx_l F).stackTraces = false) {sa : Nat → Nat} (hX : TX9 sa (fx_A F) (fx_s F) (fx_s F).heap) (hQ : fx_Q F = lw_Z (fx_b F) #[Value.ref sb] (fx_s F)) (hr : (fx_M F).sig.returnType = ret) (ha : fx_a F = #[Value.ref sb]) (hA : ∀ q, fx_A F q → (fx_s F).heap.size ≤ q) {a : Nat → Nat} {o : Nat} {b : Nat → Nat} : ∀ (d i k n : Nat) (μ : Me) (f : Nat → Int64) (τ : MM) (S : SS), L ≤ i + 4 * d + 3 → i ≤ L → k + d ≤ 601024 → n + 6 * d ≤ 7293033 → XI μ S → MI τ S → SV S → XW F k n (LW c a o b μ f τ) [(4, .int (nI i)), (3, .ref o), (2, .ref (b 0)), (1, .ref (a 0)), (0, .ref sb)] 23 [] := by
  have hL := h.2.2.2.2.2.2
  intro d
  induction d with
  | zero =>
    intro i k n μ f τ S h1 h2 h3 h4 hI hM hV
    refine x_iload h.1 0 rfl dL_law_23 ?_
    refine x_aload_n h.1 4 rfl dL_law_25 ?_
    refine x_slen h dL_law_26 ?_
    refine x_iconst h.1 (v := nI 4) dL_law_27 rfl ?_
    refine x_isubE h.1 (show nI L - nI 4 = zI ((L : Int) - 4) from zI_sub (L : Int) 4) dL_law_28 ?_
    refine x_icmp_gtZ h.1 (a := (i : Int)) (b := (L : Int) - 4) 1123 dL_law_29 rfl (by omega) (by omega) (fun q => ?_) (fun q => ?_)
    · refine x_iconst h.1 (v := 1) dL_law_1123 rfl ?_
      exact x_lawend h hQ hr ha hA dL_law_1124 (by omega) (by omega)
    · omega
  | succ d ih =>
    intro i k n μ f τ S h1 h2 h3 h4 hI hM hV
    refine x_iload h.1 0 rfl dL_law_23 ?_
    refine x_aload_n h.1 4 rfl dL_law_25 ?_
    refine x_slen h dL_law_26 ?_
    refine x_iconst h.1 (v := nI 4) dL_law_27 rfl ?_
    refine x_isubE h.1 (show nI L - nI 4 = zI ((L : Int) - 4) from zI_sub (L : Int) 4) dL_law_28 ?_
    refine x_icmp_gtZ h.1 (a := (i : Int)) (b := (L : Int) - 4) 1123 dL_law_29 rfl (by omega) (by omega) (fun q => ?_) (fun q => ?_)
    · refine x_iconst h.1 (v := 1) dL_law_1123 rfl ?_
      exact x_lawend h hQ hr ha hA dL_law_1124 (by omega) (by omega)
    · refine x_aload_n h.1 4 rfl dL_law_32 ?_
      refine x_iload h.1 0 rfl dL_law_33 ?_
      refine x_sld h (j := i) (by omega) dL_law_35 ?_
      refine x_bipush h.1 (v := nI 31) dL_law_36 rfl ?_
      obtain ⟨v, hv, e⟩ := and31 (xs i)
      refine x_iandE h.1 e dL_law_38 ?_
      clear e
      have G : LG F c a o b sb i (k + 1) (n + 6) := fun μ f τ S hI hM hV => by
        refine x_iinc h.1 (z := 4) (v := nI (i + 4)) 0 rfl (nI_add i 4) [(4, .int (nI (i + 4))), (3, .ref o), (2, .ref (b 0)), (1, .ref (a 0)), (0, .ref sb)] rfl (lt_n h.2.2.1 rfl) dL_law_1117 ?_
        refine x_goto h.1 23 dL_law_1120 rfl ?_
        exact ih (i + 4) (k + 1) (n + 6) μ f τ S (by omega) (by omega) (by omega) (by omega) hI hM hV
      have g1 : i + 3 < L := by omega
      have g2 : k + 1 ≤ 601024 := by omega
      have g3 : n + 6 ≤ 7293033 := by omega
      match v, hv with
      | 0, _ => exact la_0 h g1 g2 g3 hI hM hV G
      | 1, _ => exact la_1 h g1 g2 g3 hI hM hV G
      | 2, _ => exact la_2 h g1 g2 g3 hI hM hV G
      | 3, _ => exact la_3 h g1 g2 g3 hI hM hV G
      | 4, _ => exact la_4 h g1 g2 g3 hI hM hV G
      | 5, _ => exact la_5 h g1 g2 g3 hI hM hV G
      | 6, _ => exact la_6 h g1 g2 g3 hI hM hV G
      | 7, _ => exact la_7 h g1 g2 g3 hI hM hV G
      | 8, _ => exact la_8 h g1 g2 g3 hI hM hV G
      | 9, _ => exact la_9 h g1 g2 g3 hI hM hV G
      | 10, _ => exact la_10 h g1 g2 g3 hI hM hV G
      | 11, _ => exact la_11 h g1 g2 g3 hI hM hV G
      | 12, _ => exact la_12 h g1 g2 g3 hI hM hV G
      | 13, _ => exact la_13 h g1 g2 g3 hI hM hV G hst hX
      | 14, _ => exact la_14 h g1 g2 g3 hI hM hV G
      | 15, _ => exact la_15 h g1 g2 g3 hI hM hV G
      | 16, _ => exact la_16 h g1 g2 g3 hI hM hV G
      | 17, _ => exact la_17 h g1 g2 g3 hI hM hV G hst hX
      | 18, _ => exact la_18 h g1 g2 g3 hI hM hV G
      | 19, _ => exact la_19 h g1 g2 g3 hI hM hV G
      | 20, _ => exact la_20 h g1 g2 g3 hI hM hV G
      | 21, _ => exact la_21 h g1 g2 g3 hI hM hV G
      | 22, _ => exact la_22 h g1 g2 g3 hI hM hV G
      | 23, _ => exact la_23 h g1 g2 g3 hI hM hV G
      | 24, _ => exact la_24 h g1 g2 g3 hI hM hV G
      | 25, _ => exact la_25 h g1 g2 g3 hI hM hV G
      | 26, _ => exact la_26 h g1 g2 g3 hI hM hV G
      | 27, _ => exact la_27 h g1 g2 g3 hI hM hV G
      | 28, _ => exact la_28 h g1 g2 g3 hI hM hV G
      | 29, _ => exact la_29 h g1 g2 g3 hI hM hV G
      | 30, _ => exact la_30 h g1 g2 g3 hI hM hV G
      | 31, _ => exact la_31 h g1 g2 g3 hI hM hV G
      | v + 32, hv => omega
set_option maxHeartbeats 4000000 in
set_option maxRecDepth 100000 in
theorem la_start (h : LC F c sb L xs) (hst : (fx_l F).stackTraces = false) {sa : Nat → Nat} (hX : TX9 sa (fx_A F) (fx_s F) (fx_s F).heap) (hNX : NXs (fx_s F)) (hQ : fx_Q F = lw_Z (fx_b F) #[Value.ref sb] (fx_s F)) (hr : (fx_M F).sig.returnType = ret) (ha : fx_a F = #[Value.ref sb]) (hA : ∀ q, fx_A F q → (fx_s F).heap.size ≤ q) : XW F 0 0 [] [(0, .ref sb)] 0 [] := by
  have hL := h.2.2.2.2.2.2
  refine x_newo h.1 nw_L_8 (fs := [.null, .null, .null, .null, .null, .null]) dfX5 dL_law_0 (by rw [h.2.1]; exact Nat.le_of_ble_eq_true rfl) (by rw [h.2.1]; exact Nat.le_of_ble_eq_true rfl) (fun q => ?_)
  change XW F 1 6 [(q, .inr (5, [.null, .null, .null, .null, .null, .null]))] [(0, .ref sb)] 3 [.ref q]
  refine x_dup h.1 rfl dL_law_3 ?_
  refine x_callI h.1 ci_L_21 (c_X5_init (l := fx_l F) (D := fx_D F) (c := c) (h := q)) hNX dL_law_4 [.ref q] rfl (Nat.le_of_ble_eq_true rfl) rfl (rm_lawN h.2.1 (by decide) (by decide) (Nat.le_of_ble_eq_true rfl) (Nat.le_of_ble_eq_true rfl)) (fun u hu => ?_)
  obtain ⟨a, μ, rfl, rfl, hI⟩ := hu
  refine x_astore_n h.1 [(1, .ref (a 0)), (0, .ref sb)] rfl (lt_n h.2.2.1 rfl) dL_law_7 ?_
  refine x_newo h.1 nw_L_22 (fs := [.null, .null, .null, .null, .null, .null, .null, .null, .null, .null, .null, .int 0, .int 0, .int 0, .int 0, .int 0, .null, .null, .null, .int 0, .null, .int 0, .null, .null, .null]) dfX6 dL_law_8 (by rw [h.2.1]; exact Nat.le_of_ble_eq_true rfl) (by rw [h.2.1]; exact Nat.le_of_ble_eq_true rfl) (fun q => ?_)
  change XW F 26 320 (xw c a μ ++ ([(q, .inr (6, [.null, .null, .null, .null, .null, .null, .null, .null, .null, .null, .null, .int 0, .int 0, .int 0, .int 0, .int 0, .null, .null, .null, .int 0, .null, .int 0, .null, .null, .null]))] ++ [])) [(1, .ref (a 0)), (0, .ref sb)] 11 [.ref q]
  refine x_dup h.1 rfl dL_law_11 ?_
  refine x_callI h.1 ci_L_24 ((c_X6_init (l := fx_l F) (D := fx_D F) (c := c) (h := q)).fr (xw c a μ) []) hNX dL_law_12 [.ref q] rfl (Nat.le_of_ble_eq_true rfl) rfl (rm_lawN h.2.1 (by decide) (by decide) (Nat.le_of_ble_eq_true rfl) (Nat.le_of_ble_eq_true rfl)) (fun u hu => ?_)
  obtain ⟨_, ⟨b, τ, rfl, rfl, hM⟩, rfl⟩ := hu
  refine x_astore_n h.1 [(2, .ref (b 0)), (1, .ref (a 0)), (0, .ref sb)] rfl (lt_n h.2.2.1 rfl) dL_law_15 ?_
  refine x_iconst h.1 (v := nI 1) dL_law_16 rfl ?_
  refine x_newa h.1 (atype := .long) (ty := .long) (N := 1) (a0 := (1, .inr (.inl (fun _ => 0)))) 2 rfl rfl ar_l (fun _ => rfl) (Nat.le_of_ble_eq_true rfl) (Nat.le_of_ble_eq_true rfl) dL_law_17 (by rw [h.2.1]; exact Nat.le_of_ble_eq_true rfl) (by rw [h.2.1]; exact Nat.le_of_ble_eq_true rfl) (fun o => ?_)
  refine x_sub (wd' := LW c a o b μ (fun _ => 0) τ) [0, 1, 2, 3, 4, 5, 6, 7, 8, 9, 10, 11, 12, 13, 14, 15, 16, 17, 18, 19, 20, 21, 22, 23, 24, 44, 25, 26, 27, 28, 29, 30, 31, 32, 33, 34, 35, 36, 37, 38, 39, 40, 41, 42, 43] rfl rfl rfl ?_
  change XW F 45 49681 (LW c a o b μ (fun _ => 0) τ) [(2, .ref (b 0)), (1, .ref (a 0)), (0, .ref sb)] 19 [.ref o]
  refine x_astore_n h.1 [(3, .ref o), (2, .ref (b 0)), (1, .ref (a 0)), (0, .ref sb)] rfl (lt_n h.2.2.1 rfl) dL_law_19 ?_
  refine x_iconst h.1 (v := nI 0) dL_law_20 rfl ?_
  refine x_istore h.1 [(4, .int (nI 0)), (3, .ref o), (2, .ref (b 0)), (1, .ref (a 0)), (0, .ref sb)] rfl (lt_n h.2.2.1 rfl) dL_law_21 ?_
  exact la_loop h hst hX hQ hr ha hA 512 0 45 49681 μ _ τ S0 (by omega) (by omega) (by omega) (by omega) hI hM V_0
end LawLoop
set_option maxHeartbeats 4000000 in
set_option maxRecDepth 100000 in
theorem kn_start {s : State} {A : Array Value} (hts : ∀ w ∈ lw_tbl, w.before A s = true) : ∃ (D : va_G) (c : Nat → ClassId), va_K D vwCl (tyE c) s := by
  have hU : ∀ w ∈ UU, w.before A s = true := fun w hw => hts w (uu_lw hw)
  obtain ⟨cX0, iX0, kX0⟩ := u_known (C := RX0) (T := TX0) (N := 3) (n := 3) hU ufX0 (hU _ nw_X5_7.2.2.2.2.1)
  obtain ⟨cX1, iX1, kX1⟩ := u_known (C := RX1) (T := TX1) (N := 5) (n := 5) hU ufX1 (hU _ nw_X5_23.2.2.2.2.1)
  obtain ⟨cX2, iX2, kX2⟩ := u_known (C := RX2) (T := TX2) (N := 2) (n := 2) hU ufX2 (hU _ nw_X5_16.2.2.2.2.1)
  obtain ⟨cX3, iX3, kX3⟩ := u_known (C := RX3) (T := TX3) (N := 4) (n := 4) hU ufX3 (hU _ nw_X5_37.2.2.2.2.1)
  obtain ⟨cX4, iX4, kX4⟩ := u_known (C := RX4) (T := TX4) (N := 10) (n := 10) hU ufX4 (hU _ nw_X5_30.2.2.2.2.1)
  obtain ⟨cX5, iX5, kX5⟩ := u_known (C := RX5) (T := TX5) (N := 6) (n := 6) hU ufX5 (hU _ nw_L_8.2.2.2.2.1)
  obtain ⟨cX6, iX6, kX6⟩ := u_known (C := RX6) (T := TX6) (N := 25) (n := 25) hU ufX6 (hU _ nw_L_22.2.2.2.2.1)
  obtain ⟨a0, g0, p0, u0, v0, w0⟩ := Cond.arrayClass_spec (hU _ ar_i)
  obtain ⟨a1, g1, p1, u1, v1, w1⟩ := Cond.arrayClass_spec (hU _ ar_z)
  obtain ⟨a2, g2, p2, u2, v2, w2⟩ := Cond.arrayClass_spec (hU _ ar_l)
  obtain ⟨p3, a3, g3, -, v3, w3, u3⟩ := Cond.arrayOver_specA (hts (Cond.arrayOver (.array .int)) (by decide +kernel))
  refine ⟨(fun k => [cX0, cX1, cX2, cX3, cX4, cX5, cX6].getD k cX0, fun k => [iX0, iX1, iX2, iX3, iX4, iX5, iX6].getD k iX0), fun k => [a0, a1, a2, a3].getD k a0, fun k q hq => ?_, fun k q hq => ?_⟩
  · match k, hq with
    | 0, hq => cases hq; exact kX0
    | 1, hq => cases hq; exact kX1
    | 2, hq => cases hq; exact kX2
    | 3, hq => cases hq; exact kX3
    | 4, hq => cases hq; exact kX4
    | 5, hq => cases hq; exact kX5
    | 6, hq => cases hq; exact kX6
    | k + 7, hq => cases hq
  · match k, hq with
    | 0, hq => cases hq; exact ⟨fun n z => ⟨(fun k h => by cases h), g0, v0, p0, w0⟩, u0⟩
    | 1, hq => cases hq; exact ⟨fun n z => ⟨(fun k h => by cases h), g1, v1, p1, w1⟩, u1⟩
    | 2, hq => cases hq; exact ⟨fun n z => ⟨(fun k h => by cases h), g2, v2, p2, w2⟩, u2⟩
    | 3, hq => cases hq; exact ⟨fun n z => ⟨(fun k h => by cases h), g3, v3, p3, w3⟩, u3⟩
    | k + 4, hq => cases hq
set_option maxHeartbeats 4000000 in
set_option maxRecDepth 100000 in
theorem nx_start {s : State} {A : Array Value} (hts : ∀ w ∈ lw_tbl, w.before A s = true) : NXs s := ⟨va_AOA.of (hts (Cond.arrayOver (.array .int)) (by decide +kernel)), va_Nw.of rfl (hts (Cond.methodLinkNest RX5 18 yX2_init RX5) (by decide +kernel)), va_Nw.of rfl (hts (Cond.methodLinkNest RX5 25 yX1_init RX5) (by decide +kernel)), va_Nw.of rfl (hts (Cond.methodLinkNest RX5 32 yX4_init RX5) (by decide +kernel))⟩
set_option maxHeartbeats 4000000 in
set_option maxRecDepth 100000 in
theorem tx_start {s : State} {A : Array Value} (hts : ∀ w ∈ lw_tbl, w.before A s = true) (hgv : (Jvm.Cond.and given_1 narrow_1).before A s = true) : ∃ sa : Nat → Nat, TX9 sa (fun q => s.heap.size ≤ q) s s.heap := by
  have hs := flat_of_before _ hgv
  obtain ⟨s0, _, _, _, e0, -⟩ := Cond.exactly_spec (hs (Cond.exactly (.string "NoiseKeys" 154) "java/lang/String") (by decide +kernel))
  obtain ⟨s1, _, _, _, e1, -⟩ := Cond.exactly_spec (hs (Cond.exactly (.string "NoiseKeys" 161) "java/lang/String") (by decide +kernel))
  obtain ⟨s2, _, _, _, e2, -⟩ := Cond.exactly_spec (hs (Cond.exactly (.string "NoiseKeys" 181) "java/lang/String") (by decide +kernel))
  have n1 : va_Nc tIS tIA s := va_Nc.of (hs (Cond.not (.castable tIS tIA)) (by decide +kernel))
  have tw : TW s := ⟨va_Nw.of rfl (hts (.declares (Bundle.initS "java/lang/RuntimeException")) (by decide +kernel)), va_Nw.of rfl (hts (.declares (Bundle.initS "java/lang/Exception")) (by decide +kernel)), va_Nw.of rfl (hts (.declares (Bundle.initS Bundle.tN)) (by decide +kernel)), va_Nw.of rfl (hts (.castable tIA tIA) (by decide +kernel)), va_Nw.of rfl (hts (.castable tIS tIS) (by decide +kernel)), n1⟩
  have z1 : vx_Zq Bundle.tN "UNASSIGNED_STACK" Bundle.steD (fun q => s.heap.size ≤ q) s s.heap := vx_Zqof (hts (.laysStatic Bundle.tN "UNASSIGNED_STACK" Bundle.steD) (by decide +kernel)) (hts (.initialized Bundle.tN) (by decide +kernel)) (hs (Cond.isRef (.static Bundle.tN "UNASSIGNED_STACK" Bundle.steD)) (by decide +kernel)) (fun a h => Nat.not_le.mpr h)
  have z2 : vx_Zq Bundle.tN "SUPPRESSED_SENTINEL" Bundle.listD (fun q => s.heap.size ≤ q) s s.heap := vx_Zqof (hts (.laysStatic Bundle.tN "SUPPRESSED_SENTINEL" Bundle.listD) (by decide +kernel)) (hts (.initialized Bundle.tN) (by decide +kernel)) (hs (Cond.isRef (.static Bundle.tN "SUPPRESSED_SENTINEL" Bundle.listD)) (by decide +kernel)) (fun a h => Nat.not_le.mpr h)
  exact ⟨fun k => [s0, s1, s2].getD k s0, tw, ⟨vk_R.of (hts (.stringRef RX5 154 "no such chip or age") (by decide +kernel)) e0, vk_R.of (hts (.stringRef RX5 161 "the chip has no help") (by decide +kernel)) e1, vk_R.of (hts (.stringRef RX5 181 "bits of cells that there are not") (by decide +kernel)) e2⟩, z1, z2⟩
/-- THE LAW, from its entry -/
theorem whole_start {p : Program} {e : Env} {s : State} {m : MethodId} {below : List Frame} {meth : Method} {c : Code} (l : Launch) (hst : l.stackTraces = false) {b L : Nat} {xs : Nat → Int32} (hL : L ≤ 2048) (C0 : lw_At p s m meth c b L xs) : W p l e room_1 s m #[Value.ref b] below meth c s.heap [] 0 0 (lw_Z below #[Value.ref b] s) (entryFrame m ([Value.ref b] : List Value).toArray 8) := by
  obtain ⟨hx, hb, hr, hml, hown, hts, hX, hbl, hlocks, hgv⟩ := C0
  obtain ⟨D, cc, hK⟩ := kn_start hts
  obtain ⟨sa, hT⟩ := tx_start hts hgv
  have hNX := nx_start hts
  have hl := lv_entry ([.ref b]) (n := 8) (Nat.le_of_ble_eq_true rfl)
  rw [lg_entry_eq]
  have g := la_start (F := (p, l, e, room_1, s, m, #[Value.ref b], below, meth, c, lw_Z below #[Value.ref b] s, fun q => s.heap.size ≤ q, D, 8)) (c := cc) (sb := b) (L := L) (xs := xs) ⟨⟨hx, hb, hml, hown, fun w hw => hts w (uu_lw hw), hK, fun _ h => h, hlocks⟩, rfl, rfl, hX, hbl, Nat.not_le.mpr hbl, hL⟩ hst hT hNX rfl hr rfl (fun _ h => h)
  exact g s.heap [] _ (fun k q h => by simp at h) ⟨fun i j p q h => by simp at h, fun k q h => by simp at h⟩ va_S.rf hl
