theorem rm_T {a b nL : Nat} {R : Room} (hR : R = rmT b) (h : a < b) (hn : nL ≤ 21) : RmT (rmT a) nL 0 0 R := by
  subst hR
  refine ⟨⟨rfl, rfl⟩, ⟨?_, ?_⟩, ⟨Nat.le_refl _, Nat.le_refl _⟩⟩
  · show a + 1 ≤ b; omega
  · show 8 + (nL + 11) + 40 * a ≤ 40 * b; omega
/-- the class's cells and the law's row of one long -/
def xo (c : Nat → ClassId) (a : Nat → Nat) (o : Nat) (q : MM) : va_W := xw c a q.1 ++ [(o, .inl (c 2, 1, .inr (.inl q.2)))]
def hhF : List (Nat × Nat × Nat × Nat) := [(0, 9, 12, 13), (0, 9, 16, 15)]
def hhW : List (Nat × Nat × Nat × Nat) := [(0, 9, 12, 13)]
theorem cl_L13 : Cond.classLink RL 13 tIA ∈ UU := uu_of (by decide +kernel) rfl
theorem cl_L15 : Cond.classLink RL 15 tIS ∈ UU := uu_of (by decide +kernel) rfl
theorem csw_fail : CSW RL 81 yL_fail cL_fail 5 hhF 4 := ⟨uu_of (by decide +kernel) rfl, uu_of (by decide +kernel) rfl, uu_of (by decide +kernel) rfl, uu_of (by decide +kernel) rfl, by decide +kernel⟩
theorem csw_weight : CSW RL 103 yL_weight cL_weight 5 hhW 4 := ⟨uu_of (by decide +kernel) rfl, uu_of (by decide +kernel) rfl, uu_of (by decide +kernel) rfl, uu_of (by decide +kernel) rfl, by decide +kernel⟩
set_option maxHeartbeats 4000000 in
set_option maxRecDepth 100000 in
theorem c_L_fail {l : Launch} {D : va_G} {c : Nat → ClassId} {a : Nat → Nat} {o : Nat} {μ : Me} {f : Nat → Int64} {sa : Nat → Nat} (hst : l.stackTraces = false) {x age : Int32} {S : SS} (hI : XI μ S) (hV : SV S) : KW l D (tyE c) (xo c a o) yL_fail cL_fail 5 hhF (rmT 46) [.ref (a 0), .int x, .int age, .ref o] sa (μ, f) (fun r u => r = nI (sp_fail S x age).1 ∧ XI u.1 S ∧ ((sp_fail S x age).1 = 0 → u.2 0 = lN (sp_fail S x age).2)) := by
  refine x_enterW (by decide) (Nat.le_of_ble_eq_true rfl) (fun F hl hD hn hRm hC hR hTb hX => ?_)
  subst hl hD
  change XW F 0 0 (xo c a o (μ, f)) [(0, .ref (a 0)), (1, .int x), (2, .int age), (3, .ref o)] 0 []
  change FC F cL_fail RL (tyE c) at hC
  refine x_aload_n hC 3 rfl dL_fail_0 ?_
  refine x_iconst hC (v := nI 0) dL_fail_1 rfl ?_
  refine x_aload_n hC 0 rfl dL_fail_2 ?_
  refine x_iload_n hC 1 rfl dL_fail_3 ?_
  refine x_iload_n hC 2 rfl dL_fail_4 ?_
  change XW F 0 0 ((fun m : Me => [] ++ (xw c a m ++ [(o, .inl (c 2, 1, .inr (.inl f)))])) μ) _ _ _
  have hK := (c_X5_fail (D := fx_D F) (c := c) (a := a) (μ := μ) (sa := sa) (x := x) (age := age) hst hI hV).fr [] [(o, .inl (c 2, 1, .inr (.inl f)))]
  refine x_callVX (w := fun m : Me => [] ++ (xw c a m ++ [(o, .inl (c 2, 1, .inr (.inl f)))])) (m0 := μ) hC cw_L_7 hK hX dL_fail_5 [.int (nI 0), .ref o] rfl (Nat.le_of_ble_eq_true rfl) rfl (rm_T hRm (by decide) (by decide)) 5 0 rfl rfl (fun E hE => ?_) (fun r m hp => ?_)
  · rcases hE with ⟨h1, rfl⟩ | ⟨h1, rfl⟩
    · refine x_catch hC [] ⟨0, 9, 12, 13⟩ [⟨0, 9, 16, 15⟩] (by rw [hTb]; rfl) (fun z hz => by cases hz) (by decide) (by decide) cl_L13 hX.1.2.2.2.1 (fun q => ?_)
      change XW F 1 6 (xo c a o (μ, f)) _ _ _
      refine x_astore hC _ rfl (lt_n hn rfl) dL_fail_12 ?_
      refine x_iconst hC (v := nI 1) dL_fail_14 rfl ?_
      exact x_iret6 (w := xo c a o) (m := (μ, f)) hC hR dL_fail_15 ⟨by rw [h1], hI, fun z => by rw [h1] at z; cases z⟩
    · refine x_catch hC [⟨0, 9, 12, 13⟩] ⟨0, 9, 16, 15⟩ [] (by rw [hTb]; rfl) (fun z hz => Or.inr (by
        rcases List.mem_cons.mp hz with rfl | hz
        · exact ⟨by decide, tIA, hC.2.2.2.2.1 _ cl_L13, hX.1.2.2.2.2.2⟩
        · cases hz)) (by decide) (by decide) cl_L15 hX.1.2.2.2.2.1 (fun q => ?_)
      change XW F 1 6 (xo c a o (μ, f)) _ _ _
      refine x_astore hC _ rfl (lt_n hn rfl) dL_fail_16 ?_
      refine x_iconst hC (v := nI 2) dL_fail_18 rfl ?_
      exact x_iret6 (w := xo c a o) (m := (μ, f)) hC hR dL_fail_19 ⟨by rw [h1], hI, fun z => by rw [h1] at z; cases z⟩
  · obtain ⟨h1, rfl, hM⟩ := hp
    change XW F 1 6 (xo c a o (m, f)) _ _ _
    refine x_last hC 25 2 rfl rfl (Nat.zero_lt_one) (by decide) (xo c a o (m, vp_updL f 0 (lN (sp_fail S x age).2))) rfl dL_fail_8 ?_
    refine x_goto hC 20 dL_fail_9 rfl ?_
    refine x_iconst hC (v := nI 0) dL_fail_20 rfl ?_
    exact x_iret6 hC hR dL_fail_21 ⟨by rw [h1], hM, fun _ => updL_s f 0 _⟩
set_option maxHeartbeats 4000000 in
set_option maxRecDepth 100000 in
theorem c_L_weight {l : Launch} {D : va_G} {c : Nat → ClassId} {a : Nat → Nat} {o : Nat} {μ : Me} {f : Nat → Int64} {sa : Nat → Nat} (hst : l.stackTraces = false) {x : Int32} {t : Bool} {S : SS} (hI : XI μ S) (hV : SV S) : KW l D (tyE c) (xo c a o) yL_weight cL_weight 5 hhW (rmT 46) [.ref (a 0), .int x, .int (bz t), .ref o] sa (μ, f) (fun r u => r = nI (sp_weight S x (bz t)).1 ∧ XI u.1 S ∧ ((sp_weight S x (bz t)).1 = 0 → u.2 0 = lN (sp_weight S x (bz t)).2)) := by
  refine x_enterW (by decide) (Nat.le_of_ble_eq_true rfl) (fun F hl hD hn hRm hC hR hTb hX => ?_)
  subst hl hD
  change XW F 0 0 (xo c a o (μ, f)) [(0, .ref (a 0)), (1, .int x), (2, .int (bz t)), (3, .ref o)] 0 []
  change FC F cL_weight RL (tyE c) at hC
  refine x_aload_n hC 3 rfl dL_weight_0 ?_
  refine x_iconst hC (v := nI 0) dL_weight_1 rfl ?_
  refine x_aload_n hC 0 rfl dL_weight_2 ?_
  refine x_iload_n hC 1 rfl dL_weight_3 ?_
  refine x_iload_n hC 2 rfl dL_weight_4 ?_
  change XW F 0 0 ((fun m : Me => [] ++ (xw c a m ++ [(o, .inl (c 2, 1, .inr (.inl f)))])) μ) _ _ _
  have hK := (c_X5_weight (D := fx_D F) (c := c) (a := a) (μ := μ) (sa := sa) (x := x) (t := t) hst hI hV).fr [] [(o, .inl (c 2, 1, .inr (.inl f)))]
  refine x_callVX (w := fun m : Me => [] ++ (xw c a m ++ [(o, .inl (c 2, 1, .inr (.inl f)))])) (m0 := μ) hC cw_L_17 hK hX dL_weight_5 [.int (nI 0), .ref o] rfl (Nat.le_of_ble_eq_true rfl) rfl (rm_T hRm (by decide) (by decide)) 5 0 rfl rfl (fun E hE => ?_) (fun r m hp => ?_)
  · obtain ⟨h1, rfl⟩ := hE
    refine x_catch hC [] ⟨0, 9, 12, 13⟩ [] (by rw [hTb]; rfl) (fun z hz => by cases hz) (by decide) (by decide) cl_L13 hX.1.2.2.2.1 (fun q => ?_)
    change XW F 1 6 (xo c a o (μ, f)) _ _ _
    refine x_astore hC _ rfl (lt_n hn rfl) dL_weight_12 ?_
    refine x_iconst hC (v := nI 1) dL_weight_14 rfl ?_
    exact x_iret6 (w := xo c a o) (m := (μ, f)) hC hR dL_weight_15 ⟨by rw [h1], hI, fun z => by rw [h1] at z; cases z⟩
  · obtain ⟨h1, rfl, hM⟩ := hp
    change XW F 1 6 (xo c a o (m, f)) _ _ _
    refine x_last hC 25 2 rfl rfl (Nat.zero_lt_one) (by decide) (xo c a o (m, vp_updL f 0 (lN (sp_weight S x (bz t)).2))) rfl dL_weight_8 ?_
    refine x_goto hC 16 dL_weight_9 rfl ?_
    refine x_iconst hC (v := nI 0) dL_weight_16 rfl ?_
    exact x_iret6 hC hR dL_weight_17 ⟨by rw [h1], hM, fun _ => updL_s f 0 _⟩
