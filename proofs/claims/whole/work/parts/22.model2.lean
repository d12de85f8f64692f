/-! the table -/
def mk3 (τ : MM) (f g h : Nat → Int32) : MM := msetc (msetc (msetc (mup τ 0 5 (nI 1)) 13 f) 12 g) 14 h
theorem mk3_id (τ : MM) : mup τ 0 5 (nI 1) = mk3 τ (τ.1 13) (τ.1 12) (τ.1 14) := by
  refine Prod.ext ?_ rfl
  funext c
  show up τ.1 0 5 (nI 1) c = if c = 14 then τ.1 14 else if c = 12 then τ.1 12 else if c = 13 then τ.1 13 else up τ.1 0 5 (nI 1) c
  by_cases h1 : c = 14
  · subst h1; rfl
  · by_cases h2 : c = 12
    · subst h2; rfl
    · by_cases h3 : c = 13
      · subst h3; rfl
      · rw [if_neg h1, if_neg h2, if_neg h3]
theorem MB.mk3 {τ : MM} {S : SS} {f g h : Nat → Int32} (hI : MI τ S) : MB (mk3 τ f g h) S := ⟨hI.n, hI.mask, hI.k, hI.rows⟩
/-- the table is there -/
def MT (τ : MM) (S : SS) : Prop := (∀ w, w < 2 ^ S 0 0 → τ.1 12 w = nI (mend S w) ∧ τ.1 14 w = bz (clr S w)) ∧ ∀ key, key < 2 ^ S 0 2 → τ.1 13 key = nI (cw S key)
theorem MI.mk3 {τ : MM} {S : SS} {f g h : Nat → Int32} (hI : MI τ S) (hT : MT (mk3 τ f g h) S) : MI (mk3 τ f g h) S := ⟨hI.n, hI.mask, hI.k, hI.chips, hI.ref, hI.ch, hI.we, hI.le, hI.rows, hI.chip, hI.pair, true, rfl, fun _ => hT⟩
def QC (D : Nat → Nat) (e k0 : Nat) (x y : Int32) : Prop := (k0 = 0 ∧ e = 15) ∨ (0 < k0 ∧ e = D (amin D k0) ∧ x = nI (amin D k0) ∧ y = bz (uq D k0))
theorem QC.le {D : Nat → Nat} {e k0 : Nat} {x y : Int32} (h : QC D e k0 x y) (hD : ∀ j, D j ≤ 14) : e ≤ 15 := by
  rcases h with h | h
  · omega
  · have := hD (amin D k0); omega
theorem QC.lt {D : Nat → Nat} {e k0 : Nat} {x y : Int32} (h : QC D e k0 x y) (hl : D k0 < e) : QC D (D k0) (k0 + 1) (nI k0) (nI 1) := by
  rcases h with ⟨h1, h2⟩ | ⟨h1, h2, h3, h4⟩
  · subst h1
    exact Or.inr ⟨by omega, by rw [amin_1], by rw [amin_1], rfl⟩
  · subst h2
    exact Or.inr ⟨by omega, by rw [amin_S, if_pos hl], by rw [amin_S, if_pos hl], by rw [uq_S D h1, if_pos hl]; rfl⟩
theorem QC.eq {D : Nat → Nat} {e k0 : Nat} {x y : Int32} (h : QC D e k0 x y) (hD : ∀ j, D j ≤ 14) (he : D k0 = e) : QC D e (k0 + 1) x (nI 0) := by
  rcases h with ⟨h1, h2⟩ | ⟨h1, h2, h3, h4⟩
  · have := hD k0; omega
  · subst h2
    exact Or.inr ⟨by omega, by rw [amin_S, if_neg (by omega)], by rw [amin_S, if_neg (by omega)]; exact h3, by rw [uq_S D h1, if_neg (by omega), if_pos he]; rfl⟩
theorem QC.gt {D : Nat → Nat} {e k0 : Nat} {x y : Int32} (h : QC D e k0 x y) (hD : ∀ j, D j ≤ 14) (hne : ¬ D k0 = e) (hge : e ≤ D k0) : QC D e (k0 + 1) x y := by
  rcases h with ⟨h1, h2⟩ | ⟨h1, h2, h3, h4⟩
  · have := hD k0; omega
  · subst h2
    exact Or.inr ⟨by omega, by rw [amin_S, if_neg (by omega)], by rw [amin_S, if_neg (by omega)]; exact h3, by rw [uq_S D h1, if_neg (by omega), if_neg hne]; exact h4⟩
theorem QC.fin {D : Nat → Nat} {e k0 : Nat} {x y : Int32} (h : QC D e k0 x y) (h0 : 0 < k0) : x = nI (amin D k0) ∧ y = bz (uq D k0) := by
  rcases h with h | h
  · omega
  · exact h.2.2

set_option maxHeartbeats 4000000 in
set_option maxRecDepth 100000 in
theorem c_X6_makes {l : Launch} {D : va_G} {c : Nat → ClassId} {b : Nat → Nat} {τ : MM} {S : SS} (hI : MI τ S) (hV : SV S)  : KV l D (tyE c) (mw c b) yX6_makes cX6_makes 5 (rmL 2) [.ref (b 0)] τ (fun u => MI u S ∧ MT u S ∧ u.1 0 4 = τ.1 0 4) := by
  refine x_enterV (by decide) (Nat.le_of_ble_eq_true rfl) (fun F hl hD hn hRm hC hR => ?_)
  subst hl hD
  change XW F 0 0 (mw c b τ) [(0, .ref (b 0))] 0 []
  change FC F cX6_makes RX6 (tyE c) at hC
  have hn1 := hV.n1
  have hn2 := hV.n2
  have hpn := hV.pn
  have hk6 := hV.k
  have hpk := hV.pk
  have hpk1 := SV.pk1 S
  have hch8 := hV.chips
  have hmk := hV.mask
  have hmk31 : S 0 1 < 2 ^ 31 := by omega
  obtain ⟨bm, hbm, hmd⟩ := hI.made
  refine x_aload_n hC 0 rfl dX6_makes_0 ?_
  refine x_get hC fl_X6_86 dX6_makes_1 0 rfl (v := .int (bz bm)) (xv hbm) ?_
  refine x_if_eqB hC 8 dX6_makes_4 rfl (fun h4 => ?_) (fun h4 => ?_)
  · -- 4 T
    refine x_aload_n hC 0 rfl dX6_makes_8 ?_
    refine x_iconst hC (v := (nI 1)) dX6_makes_9 rfl ?_
    refine x_put hC fp_X6_86 dX6_makes_10 0 rfl rfl rfl (Nat.le_of_ble_eq_true rfl) (mw c b (mup τ 0 5 (nI 1))) rfl ?_
    rw [mk3_id τ]
    change XW F 0 0 (mw c b (mk3 τ (τ.1 13) (τ.1 12) (τ.1 14))) [(0, .ref (b 0))] 13 []
    refine x_iconst hC (v := (nI 0)) dX6_makes_13 rfl ?_
    refine x_istore_n hC [(1, .int (nI 0)), (0, .ref (b 0))] rfl (lt_n hn rfl) dX6_makes_14 ?_
    refine x_lv [1, 0] rfl ?_
    have L15 : ∀ (N15 : Nat) (f : Nat → Int32) (i : Nat), 2 ^ S 0 2 - i < N15 → (i ≤ 2 ^ S 0 2) → (∀ j, j < i → f j = nI (cw S j)) → XW F 0 0 (mw c b (mk3 τ f (τ.1 12) (τ.1 14))) [(0, .ref (b 0)), (1, .int (nI i))] 15 [] := by
      intro N15
      induction N15 with
      | zero => intro f i hN15 hi hf; exact absurd hN15 (by omega)
      | succ N15 ih15 =>
        intro f i hN15 hi hf
        refine x_iload_n hC 1 rfl dX6_makes_15 ?_
        refine x_iconst hC (v := (nI 1)) dX6_makes_16 rfl ?_
        refine x_aload_n hC 0 rfl dX6_makes_17 ?_
        refine x_get hC fl_X6_80 dX6_makes_18 0 rfl (v := .int (nI (S 0 2))) (xv hI.k) ?_
        refine x_ishlE hC (z := (nI (2 ^ (S 0 2)))) (nI_shl1 (by omega)) dX6_makes_21 ?_
        refine x_icmp_geN hC 42 dX6_makes_22 rfl (by omega) (by omega) (fun h22 => ?_) (fun h22 => ?_)
        · -- 22 T
          have hcd : ∀ j, j < 2 ^ S 0 2 → f j = nI (cw S j) := fun j hj => hf j (by omega)
          refine x_iconst hC (v := (nI 0)) dX6_makes_42 rfl ?_
          refine x_istore_n hC [(1, .int (nI 0)), (0, .ref (b 0))] rfl (lt_n hn rfl) dX6_makes_43 ?_
          refine x_lv [1, 0] rfl ?_
          have L44 : ∀ (N44 : Nat) (g : Nat → Int32) (h : Nat → Int32) (i : Nat), 2 ^ S 0 0 - i < N44 → (i ≤ 2 ^ S 0 0) → (∀ j, j < i → g j = nI (mend S j) ∧ h j = bz (clr S j)) → XW F 0 0 (mw c b (mk3 τ f g h)) [(0, .ref (b 0)), (1, .int (nI i))] 44 [] := by
            intro N44
            induction N44 with
            | zero => intro g h i hN44 hi hg; exact absurd hN44 (by omega)
            | succ N44 ih44 =>
              intro g h i hN44 hi hg
              have hD : ∀ j, dk S (nd i (S 0 1)) j ≤ 14 := fun j => pc_le _
              refine x_iload_n hC 1 rfl dX6_makes_44 ?_
              refine x_iconst hC (v := (nI 1)) dX6_makes_45 rfl ?_
              refine x_aload_n hC 0 rfl dX6_makes_46 ?_
              refine x_get hC fl_X6_44 dX6_makes_47 0 rfl (v := .int (nI (S 0 0))) (xv hI.n) ?_
              refine x_ishlE hC (z := (nI (2 ^ (S 0 0)))) (nI_shl1 (by omega)) dX6_makes_50 ?_
              refine x_icmp_geN hC 138 dX6_makes_51 rfl (by omega) (by omega) (fun h51 => ?_) (fun h51 => ?_)
              · -- 51 T
                exact x_vret hC hR dX6_makes_138 ((have hT : MT (mk3 τ f g h) S := ⟨fun w hw => hg w (by omega), hcd⟩; ⟨hI.mk3 hT, hT, rfl⟩))
              · -- 51 F
                refine x_bipush hC (v := (nI 15)) dX6_makes_54 rfl ?_
                refine x_istore_n hC [(2, .int (nI 15)), (0, .ref (b 0)), (1, .int (nI i))] rfl (lt_n hn rfl) dX6_makes_56 ?_
                refine x_iconst hC (v := (nI 0)) dX6_makes_57 rfl ?_
                refine x_istore_n hC [(3, .int (nI 0)), (2, .int (nI 15)), (0, .ref (b 0)), (1, .int (nI i))] rfl (lt_n hn rfl) dX6_makes_58 ?_
                refine x_lv [2, 3, 1, 0] rfl ?_
                have L59 : ∀ (N59 : Nat) (g : Nat → Int32) (h : Nat → Int32) (e : Nat) (k0 : Nat), 2 ^ S 0 2 - k0 < N59 → (k0 ≤ 2 ^ S 0 2) → (∀ j, j < i → g j = nI (mend S j) ∧ h j = bz (clr S j)) → (QC (dk S (nd i (S 0 1))) e k0 (g i) (h i)) → XW F 0 0 (mw c b (mk3 τ f g h)) [(0, .ref (b 0)), (1, .int (nI i)), (2, .int (nI e)), (3, .int (nI k0))] 59 [] := by
                  intro N59
                  induction N59 with
                  | zero => intro g h e k0 hN59 hk0 hd hc; exact absurd hN59 (by omega)
                  | succ N59 ih59 =>
                    intro g h e k0 hN59 hk0 hd hc
                    refine x_iload_n hC 3 rfl dX6_makes_59 ?_
                    refine x_iconst hC (v := (nI 1)) dX6_makes_60 rfl ?_
                    refine x_aload_n hC 0 rfl dX6_makes_61 ?_
                    refine x_get hC fl_X6_80 dX6_makes_62 0 rfl (v := .int (nI (S 0 2))) (xv hI.k) ?_
                    refine x_ishlE hC (z := (nI (2 ^ (S 0 2)))) (nI_shl1 (by omega)) dX6_makes_65 ?_
                    refine x_icmp_geN hC 132 dX6_makes_66 rfl (by omega) (by omega) (fun h66 => ?_) (fun h66 => ?_)
                    · -- 66 T
                      refine x_iinc hC (z := 1) (v := (nI (i + 1))) 1 rfl (nI_add i 1) [(1, .int (nI (i + 1))), (0, .ref (b 0)), (2, .int (nI e)), (3, .int (nI k0))] rfl (lt_n hn rfl) dX6_makes_132 ?_
                      refine x_goto hC 44 dX6_makes_135 rfl ?_
                      refine x_lv [1, 0] rfl ?_
                      exact ih44 g h (i + 1) (by omega) (by omega) (fun j hj => by rcases Nat.lt_succ_iff_lt_or_eq.mp hj with q | q; exact hd j q; (rw [q]; have z := hc.fin (by omega); rw [show k0 = 2 ^ S 0 2 by omega] at z; exact z))
                    · -- 66 F
                      refine x_iload_n hC 1 rfl dX6_makes_69 ?_
                      refine x_aload_n hC 0 rfl dX6_makes_70 ?_
                      refine x_callVI hC cw_X6_124 (c_X6_open  (S := S) (MB.mk3 hI) hV) dX6_makes_71 [.int (nI i)] rfl (Nat.le_of_ble_eq_true rfl) rfl (rm_ok hRm (by decide) (by decide)) 6 0 rfl rfl (fun r71 m71 hp71 => ?_)
                      obtain ⟨rfl, rfl⟩ := hp71
                      refine x_iandE hC (z := (nI (nd i (S 0 1)))) ((nI_and _ _).trans (congrArg nI (and_open h51))) dX6_makes_74 ?_
                      refine x_aload_n hC 0 rfl dX6_makes_75 ?_
                      refine x_get hC fl_X6_51 dX6_makes_76 0 rfl rfl ?_
                      refine x_iload_n hC 3 rfl dX6_makes_79 ?_
                      refine x_iald hC 13 0 rfl rfl (y := (nI (cw S k0))) (by omega) (by decide) (hcd k0 (by omega)) dX6_makes_80 ?_
                      refine x_ixorE hC (z := (nI ((nd i (S 0 1)) ^^^ (cw S k0)))) (nI_xor _ _) dX6_makes_81 ?_
                      refine x_callN hC cs_X6_131 (c_X6_bits (w := ((nd i (S 0 1)) ^^^ (cw S k0)))  (xor_lt14 (by have := nd_le i (S 0 1); omega) (cw_lt hV k0))) dX6_makes_82 [] rfl (Nat.le_of_ble_eq_true rfl) rfl (rm_ok hRm (by decide) (by decide)) ?_
                      refine x_top (x := (nI (pc ((nd i (S 0 1)) ^^^ (cw S k0))))) (y := (nI (dk S (nd i (S 0 1)) k0))) (rfl) ?_
                      refine x_istore hC [(4, .int (nI (dk S (nd i (S 0 1)) k0))), (0, .ref (b 0)), (1, .int (nI i)), (2, .int (nI e)), (3, .int (nI k0))] rfl (lt_n hn rfl) dX6_makes_85 ?_
                      refine x_iload hC 0 rfl dX6_makes_87 ?_
                      refine x_iload_n hC 3 rfl dX6_makes_89 ?_
                      refine x_icmp_neN hC 100 dX6_makes_90 rfl (by have := hD k0; omega) (by have := hc.le hD; omega) (fun h90 => ?_) (fun h90 => ?_)
                      · -- 90 T
                        refine x_iload hC 0 rfl dX6_makes_100 ?_
                        refine x_iload_n hC 3 rfl dX6_makes_102 ?_
                        refine x_icmp_ltN hC 109 dX6_makes_103 rfl (by have := hD k0; omega) (by have := hc.le hD; omega) (fun h103 => ?_) (fun h103 => ?_)
                        · -- 103 T
                          refine x_iload hC 0 rfl dX6_makes_109 ?_
                          refine x_istore_n hC [(2, .int (nI (dk S (nd i (S 0 1)) k0))), (4, .int (nI (dk S (nd i (S 0 1)) k0))), (0, .ref (b 0)), (1, .int (nI i)), (3, .int (nI k0))] rfl (lt_n hn rfl) dX6_makes_111 ?_
                          refine x_aload_n hC 2 rfl dX6_makes_112 ?_
                          refine x_get hC fl_X6_48 dX6_makes_113 0 rfl rfl ?_
                          refine x_iload_n hC 3 rfl dX6_makes_116 ?_
                          refine x_iload_n hC 4 rfl dX6_makes_117 ?_
                          refine x_iast hC 12 0 rfl rfl (by omega) (by decide) (mw c b (mk3 τ f (upd g i (nI k0)) h)) rfl dX6_makes_118 ?_
                          refine x_aload_n hC 2 rfl dX6_makes_119 ?_
                          refine x_get hC fl_X6_54 dX6_makes_120 0 rfl rfl ?_
                          refine x_iload_n hC 3 rfl dX6_makes_123 ?_
                          refine x_iconst hC (v := (nI 1)) dX6_makes_124 rfl ?_
                          refine x_zast hC 14 1 rfl rfl (by omega) (by decide) rfl (mw c b (mk3 τ f (upd g i (nI k0)) (upd h i (nI 1)))) rfl dX6_makes_125 ?_
                          refine x_iinc hC (z := 1) (v := (nI (k0 + 1))) 4 rfl (nI_add k0 1) [(3, .int (nI (k0 + 1))), (2, .int (nI (dk S (nd i (S 0 1)) k0))), (4, .int (nI (dk S (nd i (S 0 1)) k0))), (0, .ref (b 0)), (1, .int (nI i))] rfl (lt_n hn rfl) dX6_makes_126 ?_
                          refine x_goto hC 59 dX6_makes_129 rfl ?_
                          refine x_lv [3, 4, 1, 0] rfl ?_
                          exact ih59 (upd g i (nI k0)) (upd h i (nI 1)) (dk S (nd i (S 0 1)) k0) (k0 + 1) (by omega) (by omega) (fun j hj => by rw [upd_n (by omega), upd_n (by omega)]; exact hd j hj) (by rw [upd_s, upd_s]; exact hc.lt h103)
                        · -- 103 F
                          refine x_goto hC 126 dX6_makes_106 rfl ?_
                          refine x_iinc hC (z := 1) (v := (nI (k0 + 1))) 4 rfl (nI_add k0 1) [(3, .int (nI (k0 + 1))), (4, .int (nI (dk S (nd i (S 0 1)) k0))), (0, .ref (b 0)), (1, .int (nI i)), (2, .int (nI e))] rfl (lt_n hn rfl) dX6_makes_126 ?_
                          refine x_goto hC 59 dX6_makes_129 rfl ?_
                          refine x_lv [2, 3, 4, 0] rfl ?_
                          exact ih59 g h e (k0 + 1) (by omega) (by omega) hd (hc.gt hD h90 h103)
                      · -- 90 F
                        refine x_aload_n hC 1 rfl dX6_makes_93 ?_
                        refine x_get hC fl_X6_54 dX6_makes_94 0 rfl rfl ?_
                        refine x_iload_n hC 2 rfl dX6_makes_97 ?_
                        refine x_iconst hC (v := (nI 0)) dX6_makes_98 rfl ?_
                        refine x_zast hC 14 1 rfl rfl (by omega) (by decide) rfl (mw c b (mk3 τ f g (upd h i (nI 0)))) rfl dX6_makes_99 ?_
                        refine x_iload hC 0 rfl dX6_makes_100 ?_
                        refine x_iload_n hC 3 rfl dX6_makes_102 ?_
                        refine x_icmp_ltN hC 109 dX6_makes_103 rfl (by have := hD k0; omega) (by have := hc.le hD; omega) (fun h103 => ?_) (fun h103 => ?_)
                        · -- 103 T
                          exact absurd h103 (by omega)
                        · -- 103 F
                          refine x_goto hC 126 dX6_makes_106 rfl ?_
                          refine x_iinc hC (z := 1) (v := (nI (k0 + 1))) 4 rfl (nI_add k0 1) [(3, .int (nI (k0 + 1))), (4, .int (nI (dk S (nd i (S 0 1)) k0))), (0, .ref (b 0)), (1, .int (nI i)), (2, .int (nI e))] rfl (lt_n hn rfl) dX6_makes_126 ?_
                          refine x_goto hC 59 dX6_makes_129 rfl ?_
                          refine x_lv [2, 3, 4, 0] rfl ?_
                          exact ih59 g (upd h i (nI 0)) e (k0 + 1) (by omega) (by omega) (fun j hj => by rw [upd_n (by omega)]; exact hd j hj) (by rw [upd_s]; exact hc.eq hD h90)
                exact L59 _ g h 15 0 (Nat.lt_succ_self _) (by omega) hg (Or.inl ⟨rfl, rfl⟩)
          exact L44 _ (τ.1 12) (τ.1 14) 0 (Nat.lt_succ_self _) (by omega) (fun j h => absurd h (by omega))
        · -- 22 F
          refine x_aload_n hC 0 rfl dX6_makes_25 ?_
          refine x_get hC fl_X6_51 dX6_makes_26 0 rfl rfl ?_
          refine x_iload_n hC 1 rfl dX6_makes_29 ?_
          refine x_aload_n hC 0 rfl dX6_makes_30 ?_
          refine x_iload_n hC 1 rfl dX6_makes_31 ?_
          refine x_callVI hC cw_X6_128 (c_X6_codewordOf (key := i) (S := S) (MB.mk3 hI) hV (by omega)) dX6_makes_32 [.int (nI i), .ref (b 13)] rfl (Nat.le_of_ble_eq_true rfl) rfl (rm_ok hRm (by decide) (by decide)) 6 0 rfl rfl (fun r32 m32 hp32 => ?_)
          obtain ⟨rfl, rfl⟩ := hp32
          refine x_iast hC 13 0 rfl rfl (by omega) (by decide) (mw c b (mk3 τ (upd f i (nI (cw S i))) (τ.1 12) (τ.1 14))) rfl dX6_makes_35 ?_
          refine x_iinc hC (z := 1) (v := (nI (i + 1))) 1 rfl (nI_add i 1) [(1, .int (nI (i + 1))), (0, .ref (b 0))] rfl (lt_n hn rfl) dX6_makes_36 ?_
          refine x_goto hC 15 dX6_makes_39 rfl ?_
          refine x_lv [1, 0] rfl ?_
          exact ih15 (upd f i (nI (cw S i))) (i + 1) (by omega) (by omega) (upd_all (Q := fun j x => x = nI (cw S j)) hf rfl)
    exact L15 _ (τ.1 13) 0 (Nat.lt_succ_self _) (by omega) (fun j h => absurd h (by omega))
  · -- 4 F
    exact x_vret hC hR dX6_makes_7 (⟨hI, hmd h4, rfl⟩)
set_option maxHeartbeats 4000000 in
set_option maxRecDepth 100000 in
theorem c_X6_mended {l : Launch} {D : va_G} {c : Nat → ClassId} {b : Nat → Nat} {τ : MM} {x : Int32} {S : SS} (hI : MI τ S) (hV : SV S)  : KI l D (tyE c) (mw c b) yX6_mended cX6_mended 2 .int (rmL 3) [.ref (b 0), .int x] τ (fun r u => r = (sp_mended S x).1 ∧ MI u (sp_mended S x).2) := by
  refine x_enterI (by decide) (Nat.le_of_ble_eq_true rfl) (fun F hl hD hn hRm hC hR => ?_)
  subst hl hD
  change XW F 0 0 (mw c b τ) [(0, .ref (b 0)), (1, .int x)] 0 []
  change FC F cX6_mended RX6 (tyE c) at hC
  have hn1 := hV.n1
  have hn2 := hV.n2
  have hpn := hV.pn
  have hk6 := hV.k
  have hpk := hV.pk
  have hpk1 := SV.pk1 S
  have hch8 := hV.chips
  have hmk := hV.mask
  have hmk31 : S 0 1 < 2 ^ 31 := by omega
  refine x_aload_n hC 0 rfl dX6_mended_0 ?_
  refine x_iload_n hC 1 rfl dX6_mended_1 ?_
  refine x_callVI hC cw_X6_104 (c_X6_isWord (x := x) (S := S) (by first | assumption | exact hI.mb | omega) (by first | assumption | exact hI.mb | omega)) dX6_mended_2 [] rfl (Nat.le_of_ble_eq_true rfl) rfl (rm_ok hRm (by decide) (by decide)) 6 0 rfl rfl (fun r2 m2 hp2 => ?_)
  obtain ⟨rfl, rfl⟩ := hp2
  refine x_if_neB hC 14 dX6_mended_5 rfl (fun h5 => ?_) (fun h5 => ?_)
  · -- 5 T
    obtain ⟨v, hv, rfl⟩ := isI_T h5
    have tv := tn_nI (v := v) (by omega)
    refine x_aload_n hC 0 rfl dX6_mended_14 ?_
    refine x_callVV hC cw_X6_137 (c_X6_makes  (S := S) (by first | assumption | exact hI.mb | omega) (by first | assumption | exact hI.mb | omega)) dX6_mended_15 [] rfl (Nat.le_of_ble_eq_true rfl) rfl (rm_ok hRm (by decide) (by decide)) 6 0 rfl rfl (fun m15 hp15 => ?_)
    obtain ⟨hM, hT, hth⟩ := hp15
    refine x_aload_n hC 0 rfl dX6_mended_18 ?_
    refine x_get hC fl_X6_48 dX6_mended_19 0 rfl rfl ?_
    refine x_iload_n hC 1 rfl dX6_mended_22 ?_
    refine x_iald hC 12 0 rfl rfl (y := (nI (mend S v))) (by omega) (by decide) ((hT.1 v (by omega)).1) dX6_mended_23 ?_
    exact x_iret hC hR dX6_mended_24 (sp_leafM (by simp [sp_mended, h5, tv]) (hM))
  · -- 5 F
    refine x_aload_n hC 0 rfl dX6_mended_8 ?_
    refine x_iconst hC (v := (zI (-1))) dX6_mended_9 rfl ?_
    refine x_callVI hC cw_X6_94 (c_X6_refuse (z := (-1)) (j := 1) (v := (S 1 1)) (by decide) (by decide) (hI.ref 1 (by decide))) dX6_mended_10 [] rfl (Nat.le_of_ble_eq_true rfl) rfl (rm_ok hRm (by decide) (by decide)) 6 0 rfl rfl (fun r10 m10 hp10 => ?_)
    obtain ⟨rfl, rfl⟩ := hp10
    exact x_iret hC hR dX6_mended_13 (sp_leafM (by simp [sp_mended, h5]) (hI.rfs 1 (by decide)))
set_option maxHeartbeats 4000000 in
set_option maxRecDepth 100000 in
theorem c_X6_clear {l : Launch} {D : va_G} {c : Nat → ClassId} {b : Nat → Nat} {τ : MM} {x : Int32} {S : SS} (hI : MI τ S) (hV : SV S)  : KI l D (tyE c) (mw c b) yX6_clear cX6_clear 2 .int (rmL 3) [.ref (b 0), .int x] τ (fun r u => r = (sp_clear S x).1 ∧ MI u (sp_clear S x).2) := by
  refine x_enterI (by decide) (Nat.le_of_ble_eq_true rfl) (fun F hl hD hn hRm hC hR => ?_)
  subst hl hD
  change XW F 0 0 (mw c b τ) [(0, .ref (b 0)), (1, .int x)] 0 []
  change FC F cX6_clear RX6 (tyE c) at hC
  have hn1 := hV.n1
  have hn2 := hV.n2
  have hpn := hV.pn
  have hk6 := hV.k
  have hpk := hV.pk
  have hpk1 := SV.pk1 S
  have hch8 := hV.chips
  have hmk := hV.mask
  have hmk31 : S 0 1 < 2 ^ 31 := by omega
  refine x_aload_n hC 0 rfl dX6_clear_0 ?_
  refine x_iload_n hC 1 rfl dX6_clear_1 ?_
  refine x_callVI hC cw_X6_104 (c_X6_isWord (x := x) (S := S) (by first | assumption | exact hI.mb | omega) (by first | assumption | exact hI.mb | omega)) dX6_clear_2 [] rfl (Nat.le_of_ble_eq_true rfl) rfl (rm_ok hRm (by decide) (by decide)) 6 0 rfl rfl (fun r2 m2 hp2 => ?_)
  obtain ⟨rfl, rfl⟩ := hp2
  refine x_if_neB hC 14 dX6_clear_5 rfl (fun h5 => ?_) (fun h5 => ?_)
  · -- 5 T
    obtain ⟨v, hv, rfl⟩ := isI_T h5
    have tv := tn_nI (v := v) (by omega)
    refine x_aload_n hC 0 rfl dX6_clear_14 ?_
    refine x_callVV hC cw_X6_137 (c_X6_makes  (S := S) (by first | assumption | exact hI.mb | omega) (by first | assumption | exact hI.mb | omega)) dX6_clear_15 [] rfl (Nat.le_of_ble_eq_true rfl) rfl (rm_ok hRm (by decide) (by decide)) 6 0 rfl rfl (fun m15 hp15 => ?_)
    obtain ⟨hM, hT, hth⟩ := hp15
    refine x_aload_n hC 0 rfl dX6_clear_18 ?_
    refine x_get hC fl_X6_54 dX6_clear_19 0 rfl rfl ?_
    refine x_iload_n hC 1 rfl dX6_clear_22 ?_
    refine x_zald hC 14 1 rfl rfl (y := (bz (clr S v))) (by omega) (by decide) ((hT.1 v (by omega)).2) dX6_clear_23 ?_
    refine x_if_eqB hC 31 dX6_clear_24 rfl (fun h24 => ?_) (fun h24 => ?_)
    · -- 24 T
      refine x_iconst hC (v := (nI 0)) dX6_clear_31 rfl ?_
      exact x_iret hC hR dX6_clear_32 (sp_leafM (by simp only [sp_clear, h5, tv, if_true, h24]; rfl) hM)
    · -- 24 F
      refine x_iconst hC (v := (nI 1)) dX6_clear_27 rfl ?_
      refine x_goto hC 32 dX6_clear_28 rfl ?_
      exact x_iret hC hR dX6_clear_32 (sp_leafM (by simp only [sp_clear, h5, tv, if_true, h24]; rfl) hM)
  · -- 5 F
    refine x_aload_n hC 0 rfl dX6_clear_8 ?_
    refine x_iconst hC (v := (zI (-1))) dX6_clear_9 rfl ?_
    refine x_callVI hC cw_X6_94 (c_X6_refuse (z := (-1)) (j := 1) (v := (S 1 1)) (by decide) (by decide) (hI.ref 1 (by decide))) dX6_clear_10 [] rfl (Nat.le_of_ble_eq_true rfl) rfl (rm_ok hRm (by decide) (by decide)) 6 0 rfl rfl (fun r10 m10 hp10 => ?_)
    obtain ⟨rfl, rfl⟩ := hp10
    exact x_iret hC hR dX6_clear_13 (sp_leafM (by simp [sp_clear, h5]) (hI.rfs 1 (by decide)))
set_option maxHeartbeats 4000000 in
set_option maxRecDepth 100000 in
theorem c_X6_enrol {l : Launch} {D : va_G} {c : Nat → ClassId} {b : Nat → Nat} {τ : MM} {x : Int32} {key : Int32} {S : SS} (hI : MI τ S) (hV : SV S)  : KI l D (tyE c) (mw c b) yX6_enrol cX6_enrol 3 .int (rmL 3) [.ref (b 0), .int x, .int key] τ (fun r u => r = (sp_enrol S x key).1 ∧ MI u (sp_enrol S x key).2) := by
  refine x_enterI (by decide) (Nat.le_of_ble_eq_true rfl) (fun F hl hD hn hRm hC hR => ?_)
  subst hl hD
  change XW F 0 0 (mw c b τ) [(0, .ref (b 0)), (1, .int x), (2, .int key)] 0 []
  change FC F cX6_enrol RX6 (tyE c) at hC
  have hn1 := hV.n1
  have hn2 := hV.n2
  have hpn := hV.pn
  have hk6 := hV.k
  have hpk := hV.pk
  have hpk1 := SV.pk1 S
  have hch8 := hV.chips
  have hmk := hV.mask
  have hmk31 : S 0 1 < 2 ^ 31 := by omega
  refine x_aload_n hC 0 rfl dX6_enrol_0 ?_
  refine x_iload_n hC 1 rfl dX6_enrol_1 ?_
  refine x_callVI hC cw_X6_140 (c_X6_isChip (x := x) (S := S) (by first | assumption | exact hI.mb | omega) (by first | assumption | exact hI.mb | omega)) dX6_enrol_2 [] rfl (Nat.le_of_ble_eq_true rfl) rfl (rm_ok hRm (by decide) (by decide)) 6 0 rfl rfl (fun r2 m2 hp2 => ?_)
  obtain ⟨rfl, rfl⟩ := hp2
  refine x_if_eqB hC 16 dX6_enrol_5 rfl (fun h5 => ?_) (fun h5 => ?_)
  · -- 5 T
    refine x_aload_n hC 0 rfl dX6_enrol_16 ?_
    refine x_iconst hC (v := (zI (-1))) dX6_enrol_17 rfl ?_
    refine x_callVI hC cw_X6_94 (c_X6_refuse (z := (-1)) (j := 1) (v := (S 1 1)) (by decide) (by decide) (hI.ref 1 (by decide))) dX6_enrol_18 [] rfl (Nat.le_of_ble_eq_true rfl) rfl (rm_ok hRm (by decide) (by decide)) 6 0 rfl rfl (fun r18 m18 hp18 => ?_)
    obtain ⟨rfl, rfl⟩ := hp18
    exact x_iret hC hR dX6_enrol_21 (sp_leafM (by simp [sp_enrol, h5]) (hI.rfs 1 (by decide)))
  · -- 5 F
    obtain ⟨v, hv, rfl⟩ := isI_T h5
    have tv := tn_nI (v := v) (by omega)
    refine x_aload_n hC 0 rfl dX6_enrol_8 ?_
    refine x_iload_n hC 2 rfl dX6_enrol_9 ?_
    refine x_callVI hC cw_X6_134 (c_X6_isKey (x := key) (S := S) (by first | assumption | exact hI.mb | omega) (by first | assumption | exact hI.mb | omega)) dX6_enrol_10 [] rfl (Nat.le_of_ble_eq_true rfl) rfl (rm_ok hRm (by decide) (by decide)) 6 0 rfl rfl (fun r10 m10 hp10 => ?_)
    obtain ⟨rfl, rfl⟩ := hp10
    refine x_if_neB hC 22 dX6_enrol_13 rfl (fun h13 => ?_) (fun h13 => ?_)
    · -- 13 T
      obtain ⟨y, hy, rfl⟩ := isI_T h13
      have ty := tn_nI (v := y) (by omega)
      have hcb := (hV.chip v hv).1
      refine x_aload_n hC 0 rfl dX6_enrol_22 ?_
      refine x_get hC fl_X6_25 dX6_enrol_23 0 rfl rfl ?_
      refine x_iload_n hC 1 rfl dX6_enrol_26 ?_
      refine x_aload_n hC 0 rfl dX6_enrol_27 ?_
      refine x_get hC fl_X6_22 dX6_enrol_28 0 rfl rfl ?_
      refine x_iload_n hC 1 rfl dX6_enrol_31 ?_
      refine x_iald hC 5 0 rfl rfl (y := (nI (S 5 v))) (by omega) (by decide) ((hI.chip v (by omega)).1) dX6_enrol_32 ?_
      refine x_aload_n hC 0 rfl dX6_enrol_33 ?_
      refine x_callVI hC cw_X6_124 (c_X6_open  (S := S) (by first | assumption | exact hI.mb | omega) (by first | assumption | exact hI.mb | omega)) dX6_enrol_34 [.int (nI (S 5 v)), .int (nI v), .ref (b 6)] rfl (Nat.le_of_ble_eq_true rfl) rfl (rm_ok hRm (by decide) (by decide)) 6 0 rfl rfl (fun r34 m34 hp34 => ?_)
      obtain ⟨rfl, rfl⟩ := hp34
      refine x_iandE hC (z := (nI (nd (S 5 v) (S 0 1)))) ((nI_and _ _).trans (congrArg nI (and_open hcb))) dX6_enrol_37 ?_
      refine x_aload_n hC 0 rfl dX6_enrol_38 ?_
      refine x_iload_n hC 2 rfl dX6_enrol_39 ?_
      refine x_callVI hC cw_X6_128 (c_X6_codewordOf (key := y) (S := S) (by first | assumption | exact hI.mb | omega) (by first | assumption | exact hI.mb | omega) (by first | assumption | exact hI.mb | omega)) dX6_enrol_40 [.int (nI (nd (S 5 v) (S 0 1))), .int (nI v), .ref (b 6)] rfl (Nat.le_of_ble_eq_true rfl) rfl (rm_ok hRm (by decide) (by decide)) 6 0 rfl rfl (fun r40 m40 hp40 => ?_)
      obtain ⟨rfl, rfl⟩ := hp40
      refine x_ixorE hC (z := (nI ((nd (S 5 v) (S 0 1)) ^^^ (cw S y)))) (nI_xor _ _) dX6_enrol_43 ?_
      refine x_iast hC 6 0 rfl rfl (by omega) (by decide) (mw c b (mup τ 6 v (nI ((nd (S 5 v) (S 0 1)) ^^^ (cw S y))))) rfl dX6_enrol_44 ?_
      refine x_aload_n hC 0 rfl dX6_enrol_45 ?_
      refine x_get hC fl_X6_28 dX6_enrol_46 0 rfl rfl ?_
      refine x_iload_n hC 1 rfl dX6_enrol_49 ?_
      refine x_iload_n hC 2 rfl dX6_enrol_50 ?_
      refine x_iast hC 7 0 rfl rfl (by omega) (by decide) (mw c b (mup (mup τ 6 v (nI ((nd (S 5 v) (S 0 1)) ^^^ (cw S y)))) 7 v (nI y))) rfl dX6_enrol_51 ?_
      refine x_aload_n hC 0 rfl dX6_enrol_52 ?_
      refine x_get hC fl_X6_37 dX6_enrol_53 0 rfl rfl ?_
      refine x_iload_n hC 1 rfl dX6_enrol_56 ?_
      refine x_iconst hC (v := (nI 1)) dX6_enrol_57 rfl ?_
      refine x_zast hC 10 1 rfl rfl (by omega) (by decide) rfl (mw c b (mup (mup (mup τ 6 v (nI ((nd (S 5 v) (S 0 1)) ^^^ (cw S y)))) 7 v (nI y)) 10 v (nI 1))) rfl dX6_enrol_58 ?_
      refine x_aload_n hC 0 rfl dX6_enrol_59 ?_
      refine x_get hC fl_X6_25 dX6_enrol_60 0 rfl rfl ?_
      refine x_iload_n hC 1 rfl dX6_enrol_63 ?_
      refine x_iald hC 6 0 rfl rfl (y := (nI (nd (S 5 v) (S 0 1) ^^^ cw S y))) (by omega) (by decide) (upd_s _ _ _) dX6_enrol_64 ?_
      exact x_iret hC hR dX6_enrol_65 (sp_leafM (by simp [sp_enrol, h5, h13, tv, ty]) (hI.helpc v _ y))
    · -- 13 F
      refine x_aload_n hC 0 rfl dX6_enrol_16 ?_
      refine x_iconst hC (v := (zI (-1))) dX6_enrol_17 rfl ?_
      refine x_callVI hC cw_X6_94 (c_X6_refuse (z := (-1)) (j := 1) (v := (S 1 1)) (by decide) (by decide) (hI.ref 1 (by decide))) dX6_enrol_18 [] rfl (Nat.le_of_ble_eq_true rfl) rfl (rm_ok hRm (by decide) (by decide)) 6 0 rfl rfl (fun r18 m18 hp18 => ?_)
      obtain ⟨rfl, rfl⟩ := hp18
      exact x_iret hC hR dX6_enrol_21 (sp_leafM (by simp [sp_enrol, h5, h13, tv]) (hI.rfs 1 (by decide)))
set_option maxHeartbeats 4000000 in
set_option maxRecDepth 100000 in
theorem c_X6_reading {l : Launch} {D : va_G} {c : Nat → ClassId} {b : Nat → Nat} {τ : MM} {x : Int32} {w : Int32} {S : SS} (hI : MI τ S) (hV : SV S)  : KI l D (tyE c) (mw c b) yX6_reading cX6_reading 3 .int (rmL 3) [.ref (b 0), .int x, .int w] τ (fun r u => r = (sp_reading S x w).1 ∧ MI u (sp_reading S x w).2) := by
  refine x_enterI (by decide) (Nat.le_of_ble_eq_true rfl) (fun F hl hD hn hRm hC hR => ?_)
  subst hl hD
  change XW F 0 0 (mw c b τ) [(0, .ref (b 0)), (1, .int x), (2, .int w)] 0 []
  change FC F cX6_reading RX6 (tyE c) at hC
  have hn1 := hV.n1
  have hn2 := hV.n2
  have hpn := hV.pn
  have hk6 := hV.k
  have hpk := hV.pk
  have hpk1 := SV.pk1 S
  have hch8 := hV.chips
  have hmk := hV.mask
  have hmk31 : S 0 1 < 2 ^ 31 := by omega
  refine x_aload_n hC 0 rfl dX6_reading_0 ?_
  refine x_iload_n hC 1 rfl dX6_reading_1 ?_
  refine x_callVI hC cw_X6_140 (c_X6_isChip (x := x) (S := S) (by first | assumption | exact hI.mb | omega) (by first | assumption | exact hI.mb | omega)) dX6_reading_2 [] rfl (Nat.le_of_ble_eq_true rfl) rfl (rm_ok hRm (by decide) (by decide)) 6 0 rfl rfl (fun r2 m2 hp2 => ?_)
  obtain ⟨rfl, rfl⟩ := hp2
  refine x_if_eqB hC 16 dX6_reading_5 rfl (fun h5 => ?_) (fun h5 => ?_)
  · -- 5 T
    refine x_aload_n hC 0 rfl dX6_reading_16 ?_
    refine x_iconst hC (v := (zI (-1))) dX6_reading_17 rfl ?_
    refine x_callVI hC cw_X6_94 (c_X6_refuse (z := (-1)) (j := 1) (v := (S 1 1)) (by decide) (by decide) (hI.ref 1 (by decide))) dX6_reading_18 [] rfl (Nat.le_of_ble_eq_true rfl) rfl (rm_ok hRm (by decide) (by decide)) 6 0 rfl rfl (fun r18 m18 hp18 => ?_)
    obtain ⟨rfl, rfl⟩ := hp18
    exact x_iret hC hR dX6_reading_21 (sp_leafM (by simp [sp_reading, h5]) (hI.rfs 1 (by decide)))
  · -- 5 F
    obtain ⟨v, hv, rfl⟩ := isI_T h5
    have tv := tn_nI (v := v) (by omega)
    refine x_aload_n hC 0 rfl dX6_reading_8 ?_
    refine x_iload_n hC 2 rfl dX6_reading_9 ?_
    refine x_callVI hC cw_X6_104 (c_X6_isWord (x := w) (S := S) (by first | assumption | exact hI.mb | omega) (by first | assumption | exact hI.mb | omega)) dX6_reading_10 [] rfl (Nat.le_of_ble_eq_true rfl) rfl (rm_ok hRm (by decide) (by decide)) 6 0 rfl rfl (fun r10 m10 hp10 => ?_)
    obtain ⟨rfl, rfl⟩ := hp10
    refine x_if_neB hC 22 dX6_reading_13 rfl (fun h13 => ?_) (fun h13 => ?_)
    · -- 13 T
      obtain ⟨y, hy, rfl⟩ := isI_T h13
      have ty := tn_nI (v := y) (by omega)
      refine x_aload_n hC 0 rfl dX6_reading_22 ?_
      refine x_get hC fl_X6_37 dX6_reading_23 0 rfl rfl ?_
      refine x_iload_n hC 1 rfl dX6_reading_26 ?_
      refine x_zald hC 10 1 rfl rfl (y := (bz (decide (S 6 v = 1)))) (by omega) (by decide) ((hI.chip v (by omega)).2.1) dX6_reading_27 ?_
      refine x_if_neB hC 38 dX6_reading_28 rfl (fun h28 => ?_) (fun h28 => ?_)
      · -- 28 T
        have hhp := of_decide_eq_true h28
        have hxl : y ^^^ S 7 v < 2 ^ S 0 0 := Nat.xor_lt_two_pow hy ((hV.chip v hv).2.2 hhp).1
        refine x_aload_n hC 0 rfl dX6_reading_38 ?_
        refine x_callVV hC cw_X6_137 (c_X6_makes  (S := S) (by first | assumption | exact hI.mb | omega) (by first | assumption | exact hI.mb | omega)) dX6_reading_39 [] rfl (Nat.le_of_ble_eq_true rfl) rfl (rm_ok hRm (by decide) (by decide)) 6 0 rfl rfl (fun m39 hp39 => ?_)
        obtain ⟨hM, hT, hth⟩ := hp39
        refine x_aload_n hC 0 rfl dX6_reading_42 ?_
        refine x_get hC fl_X6_48 dX6_reading_43 0 rfl rfl ?_
        refine x_iload_n hC 2 rfl dX6_reading_46 ?_
        refine x_aload_n hC 0 rfl dX6_reading_47 ?_
        refine x_get hC fl_X6_25 dX6_reading_48 0 rfl rfl ?_
        refine x_iload_n hC 1 rfl dX6_reading_51 ?_
        refine x_iald hC 6 0 rfl rfl (y := (nI (S 7 v))) (by omega) (by decide) (((hM.chip v hv).2.2 hhp).1) dX6_reading_52 ?_
        refine x_ixorE hC (z := (nI (y ^^^ (S 7 v)))) (nI_xor _ _) dX6_reading_53 ?_
        refine x_iald hC 12 0 rfl rfl (y := (nI (mend S (y ^^^ (S 7 v))))) (by omega) (by decide) ((hT.1 (y ^^^ (S 7 v)) (by omega)).1) dX6_reading_54 ?_
        exact x_iret hC hR dX6_reading_55 (sp_leafM (by simp [sp_reading, h5, h13, hhp, tv, ty]) (hM))
      · -- 28 F
        have hhp := of_decide_eq_false h28
        refine x_aload_n hC 0 rfl dX6_reading_31 ?_
        refine x_bipush hC (v := (zI (-3))) dX6_reading_32 rfl ?_
        refine x_callVI hC cw_X6_94 (c_X6_refuse (z := (-3)) (j := 3) (v := (S 1 3)) (by decide) (by decide) (hI.ref 3 (by decide))) dX6_reading_34 [] rfl (Nat.le_of_ble_eq_true rfl) rfl (rm_ok hRm (by decide) (by decide)) 6 0 rfl rfl (fun r34 m34 hp34 => ?_)
        obtain ⟨rfl, rfl⟩ := hp34
        exact x_iret hC hR dX6_reading_37 (sp_leafM (by simp [sp_reading, h5, h13, hhp, tv, ty]) (hI.rfs 3 (by decide)))
    · -- 13 F
      refine x_aload_n hC 0 rfl dX6_reading_16 ?_
      refine x_iconst hC (v := (zI (-1))) dX6_reading_17 rfl ?_
      refine x_callVI hC cw_X6_94 (c_X6_refuse (z := (-1)) (j := 1) (v := (S 1 1)) (by decide) (by decide) (hI.ref 1 (by decide))) dX6_reading_18 [] rfl (Nat.le_of_ble_eq_true rfl) rfl (rm_ok hRm (by decide) (by decide)) 6 0 rfl rfl (fun r18 m18 hp18 => ?_)
      obtain ⟨rfl, rfl⟩ := hp18
      exact x_iret hC hR dX6_reading_21 (sp_leafM (by simp [sp_reading, h5, h13, tv]) (hI.rfs 1 (by decide)))
set_option maxHeartbeats 4000000 in
set_option maxRecDepth 100000 in
theorem c_X6_allOf {l : Launch} {D : va_G} {c : Nat → ClassId} {b : Nat → Nat} {τ : MM} {S : SS} (hI : MI τ S) (hV : SV S)  : KL l D (tyE c) (mw c b) yX6_allOf cX6_allOf 1 (rmL 2) [.ref (b 0)] τ (fun r u => r = lN (allS S) ∧ τ = u) := by
  refine x_enterL (by decide) (Nat.le_of_ble_eq_true rfl) (fun F hl hD hn hRm hC hR => ?_)
  subst hl hD
  change XW F 0 0 (mw c b τ) [(0, .ref (b 0))] 0 []
  change FC F cX6_allOf RX6 (tyE c) at hC
  have hn1 := hV.n1
  have hn2 := hV.n2
  have hpn := hV.pn
  have hk6 := hV.k
  have hpk := hV.pk
  have hpk1 := SV.pk1 S
  have hch8 := hV.chips
  have hmk := hV.mask
  have hmk31 : S 0 1 < 2 ^ 31 := by omega
  refine x_lconst hC (v := lN 1) dX6_allOf_0 rfl ?_
  refine x_iconst hC (v := (nI 3)) dX6_allOf_1 rfl ?_
  refine x_aload_n hC 0 rfl dX6_allOf_2 ?_
  refine x_callVI hC cw_X6_124 (c_X6_open  (S := S) (by first | assumption | exact hI.mb | omega) (by first | assumption | exact hI.mb | omega)) dX6_allOf_3 [.int (nI 3), .long (lN 1)] rfl (Nat.le_of_ble_eq_true rfl) rfl (rm_ok hRm (by decide) (by decide)) 6 0 rfl rfl (fun r3 m3 hp3 => ?_)
  obtain ⟨rfl, rfl⟩ := hp3
  refine x_callN hC cs_X6_131 (c_X6_bits (w := (opn S))  (opn_lt hV)) dX6_allOf_6 [.int (nI 3), .long (lN 1)] rfl (Nat.le_of_ble_eq_true rfl) rfl (rm_ok hRm (by decide) (by decide)) ?_
  refine x_imulE hC (z := (nI (3 * (pc (opn S))))) (pk_mul _ _) dX6_allOf_9 ?_
  refine x_lshl hC (v := (lN (allS S))) (lN_shl1 (by have := pc_le (opn S); omega)) dX6_allOf_10 ?_
  exact x_lret hC hR dX6_allOf_11 (⟨rfl, rfl⟩)
set_option maxHeartbeats 4000000 in
set_option maxRecDepth 100000 in
theorem c_X6_all {l : Launch} {D : va_G} {c : Nat → ClassId} {b : Nat → Nat} {τ : MM} {S : SS} (hI : MI τ S) (hV : SV S)  : KL l D (tyE c) (mw c b) yX6_all cX6_all 1 (rmL 3) [.ref (b 0)] τ (fun r u => r = lN (allS S) ∧ τ = u) := by
  refine x_enterL (by decide) (Nat.le_of_ble_eq_true rfl) (fun F hl hD hn hRm hC hR => ?_)
  subst hl hD
  change XW F 0 0 (mw c b τ) [(0, .ref (b 0))] 0 []
  change FC F cX6_all RX6 (tyE c) at hC
  have hn1 := hV.n1
  have hn2 := hV.n2
  have hpn := hV.pn
  have hk6 := hV.k
  have hpk := hV.pk
  have hpk1 := SV.pk1 S
  have hch8 := hV.chips
  have hmk := hV.mask
  have hmk31 : S 0 1 < 2 ^ 31 := by omega
  refine x_aload_n hC 0 rfl dX6_all_0 ?_
  refine x_callVL hC cw_X6_150 (c_X6_allOf  (S := S) (by first | assumption | exact hI.mb | omega) (by first | assumption | exact hI.mb | omega)) dX6_all_1 [] rfl (Nat.le_of_ble_eq_true rfl) rfl (rm_ok hRm (by decide) (by decide)) 6 0 rfl rfl (fun r1 m1 hp1 => ?_)
  obtain ⟨rfl, rfl⟩ := hp1
  exact x_lret hC hR dX6_all_4 (⟨rfl, rfl⟩)
set_option maxHeartbeats 4000000 in
set_option maxRecDepth 100000 in
theorem c_X6_weightOf {l : Launch} {D : va_G} {c : Nat → ClassId} {b : Nat → Nat} {τ : MM} {w : Nat} {S : SS} (hI : MI τ S) (hV : SV S) (hw : w < 2 ^ 31) : KL l D (tyE c) (mw c b) yX6_weightOf cX6_weightOf 5 (rmL 1) [.ref (b 0), .int (nI w)] τ (fun r u => r = lN (wt S w) ∧ τ = u) := by
  refine x_enterL (by decide) (Nat.le_of_ble_eq_true rfl) (fun F hl hD hn hRm hC hR => ?_)
  subst hl hD
  change XW F 0 0 (mw c b τ) [(0, .ref (b 0)), (1, .int (nI w))] 0 []
  change FC F cX6_weightOf RX6 (tyE c) at hC
  have hn1 := hV.n1
  have hn2 := hV.n2
  have hpn := hV.pn
  have hk6 := hV.k
  have hpk := hV.pk
  have hpk1 := SV.pk1 S
  have hch8 := hV.chips
  have hmk := hV.mask
  have hmk31 : S 0 1 < 2 ^ 31 := by omega
  refine x_lconst hC (v := lN 1) dX6_weightOf_0 rfl ?_
  refine x_lstore_n hC [(2, .long (lN 1)), (0, .ref (b 0)), (1, .int (nI w))] rfl (lt_n hn rfl) dX6_weightOf_1 ?_
  refine x_iconst hC (v := (nI 0)) dX6_weightOf_2 rfl ?_
  refine x_istore hC [(4, .int (nI 0)), (2, .long (lN 1)), (0, .ref (b 0)), (1, .int (nI w))] rfl (lt_n hn rfl) dX6_weightOf_3 ?_
  refine x_lv [2, 3, 1, 0] rfl ?_
  have L5 : ∀ (N5 : Nat) (s : Nat) (i : Nat), S 0 0 - i < N5 → (s = wyx (S 0 1) (S 4) w i) → (i ≤ S 0 0) → XW F 0 0 (mw c b τ) [(0, .ref (b 0)), (1, .int (nI w)), (2, .long (lN s)), (4, .int (nI i))] 5 [] := by
    intro N5
    induction N5 with
    | zero => intro s i hN5 hs hi; exact absurd hN5 (by omega)
    | succ N5 ih5 =>
      intro s i hN5 hs hi
      refine x_iload hC 3 rfl dX6_weightOf_5 ?_
      refine x_aload_n hC 0 rfl dX6_weightOf_7 ?_
      refine x_get hC fl_X6_44 dX6_weightOf_8 0 rfl (v := .int (nI (S 0 0))) (xv hI.n) ?_
      refine x_icmp_geN hC 67 dX6_weightOf_11 rfl (by omega) (by omega) (fun h11 => ?_) (fun h11 => ?_)
      · -- 11 T
        refine x_lload_n hC 2 rfl dX6_weightOf_67 ?_
        exact x_lret hC hR dX6_weightOf_68 (⟨by rw [hs, show i = S 0 0 by omega]; rfl, rfl⟩)
      · -- 11 F
        refine x_aload_n hC 0 rfl dX6_weightOf_14 ?_
        refine x_get hC fl_X6_77 dX6_weightOf_15 0 rfl (v := .int (nI (S 0 1))) (xv hI.mask) ?_
        refine x_iload hC 3 rfl dX6_weightOf_18 ?_
        refine x_ishrE hC (z := (nI ((S 0 1) / 2 ^ i))) (nI_shr (by omega) (by omega)) dX6_weightOf_20 ?_
        refine x_iconst hC (v := (nI 1)) dX6_weightOf_21 rfl ?_
        refine x_iandE hC (z := (nI (bt (S 0 1) i))) (nI_and1 _) dX6_weightOf_22 ?_
        refine x_if_neN hC 61 dX6_weightOf_23 rfl (by have := bt_lt (S 0 1) i; omega) (fun h23 => ?_) (fun h23 => ?_)
        · -- 23 T
          have g23 : bt (S 0 1) i = 1 := by have := bt_lt (S 0 1) i; omega
          refine x_iinc hC (z := 1) (v := (nI (i + 1))) 3 rfl (nI_add i 1) [(4, .int (nI (i + 1))), (0, .ref (b 0)), (1, .int (nI w)), (2, .long (lN s))] rfl (lt_n hn rfl) dX6_weightOf_61 ?_
          refine x_goto hC 5 dX6_weightOf_64 rfl ?_
          refine x_lv [1, 2, 3, 0] rfl ?_
          exact ih5 s (i + 1) (by omega) (by rw [hs]; simp [wyx, g23]) (by omega)
        · -- 23 F
          have g23 : ¬ bt (S 0 1) i = 1 := by omega
          have hli := hV.told i (by omega)
          refine x_lload_n hC 2 rfl dX6_weightOf_26 ?_
          refine x_iload_n hC 1 rfl dX6_weightOf_27 ?_
          refine x_iload hC 3 rfl dX6_weightOf_28 ?_
          refine x_ishrE hC (z := (nI (w / 2 ^ i))) (nI_shr (by omega) (by omega)) dX6_weightOf_30 ?_
          refine x_iconst hC (v := (nI 1)) dX6_weightOf_31 rfl ?_
          refine x_iandE hC (z := (nI (bt w i))) (nI_and1 _) dX6_weightOf_32 ?_
          refine x_iconst hC (v := (nI 1)) dX6_weightOf_33 rfl ?_
          refine x_icmp_neN hC 48 dX6_weightOf_34 rfl (by have := bt_lt w i; omega) (by decide) (fun h34 => ?_) (fun h34 => ?_)
          · -- 34 T
            refine x_bipush hC (v := (nI 8)) dX6_weightOf_48 rfl ?_
            refine x_aload_n hC 0 rfl dX6_weightOf_50 ?_
            refine x_get hC fl_X6_19 dX6_weightOf_51 0 rfl rfl ?_
            refine x_iload hC 3 rfl dX6_weightOf_54 ?_
            refine x_iald hC 4 0 rfl rfl (y := (nI (S 4 i))) (by omega) (by decide) (hI.le i (by omega)) dX6_weightOf_56 ?_
            refine x_isubE hC (z := (nI (8 - (S 4 i)))) (pk_sub (by omega)) dX6_weightOf_57 ?_
            refine x_i2l hC (v := (lN (8 - (S 4 i)))) (nI_l (by omega)) dX6_weightOf_58 ?_
            refine x_lmulE hC (z := (lN (s * (8 - (S 4 i))))) (lN_mul _ _) dX6_weightOf_59 ?_
            refine x_lstore_n hC [(2, .long (lN (s * (8 - (S 4 i))))), (0, .ref (b 0)), (1, .int (nI w)), (4, .int (nI i))] rfl (lt_n hn rfl) dX6_weightOf_60 ?_
            refine x_iinc hC (z := 1) (v := (nI (i + 1))) 3 rfl (nI_add i 1) [(4, .int (nI (i + 1))), (2, .long (lN (s * (8 - (S 4 i))))), (0, .ref (b 0)), (1, .int (nI w))] rfl (lt_n hn rfl) dX6_weightOf_61 ?_
            refine x_goto hC 5 dX6_weightOf_64 rfl ?_
            refine x_lv [2, 3, 1, 0] rfl ?_
            exact ih5 (s * (8 - (S 4 i))) (i + 1) (by omega) (by rw [hs]; simp [wyx, g23, h34]) (by omega)
          · -- 34 F
            refine x_aload_n hC 0 rfl dX6_weightOf_37 ?_
            refine x_get hC fl_X6_19 dX6_weightOf_38 0 rfl rfl ?_
            refine x_iload hC 3 rfl dX6_weightOf_41 ?_
            refine x_iald hC 4 0 rfl rfl (y := (nI (S 4 i))) (by omega) (by decide) (hI.le i (by omega)) dX6_weightOf_43 ?_
            refine x_i2l hC (v := (lN (S 4 i))) (nI_l (by omega)) dX6_weightOf_44 ?_
            refine x_goto hC 59 dX6_weightOf_45 rfl ?_
            refine x_lmulE hC (z := (lN (s * (S 4 i)))) (lN_mul _ _) dX6_weightOf_59 ?_
            refine x_lstore_n hC [(2, .long (lN (s * (S 4 i)))), (0, .ref (b 0)), (1, .int (nI w)), (4, .int (nI i))] rfl (lt_n hn rfl) dX6_weightOf_60 ?_
            refine x_iinc hC (z := 1) (v := (nI (i + 1))) 3 rfl (nI_add i 1) [(4, .int (nI (i + 1))), (2, .long (lN (s * (S 4 i)))), (0, .ref (b 0)), (1, .int (nI w))] rfl (lt_n hn rfl) dX6_weightOf_61 ?_
            refine x_goto hC 5 dX6_weightOf_64 rfl ?_
            refine x_lv [2, 3, 1, 0] rfl ?_
            exact ih5 (s * (S 4 i)) (i + 1) (by omega) (by rw [hs]; simp [wyx, g23, h34]) (by omega)
  exact L5 _ 1 0 (Nat.lt_succ_self _) rfl (by omega)
set_option maxHeartbeats 4000000 in
set_option maxRecDepth 100000 in
theorem c_X6_bestGuess {l : Launch} {D : va_G} {c : Nat → ClassId} {b : Nat → Nat} {τ : MM} {h : Nat} {S : SS} (hI : MI τ S) (hV : SV S) (hh : h < 16384) : KI l D (tyE c) (mw c b) yX6_bestGuess cX6_bestGuess 4 .int (rmL 2) [.ref (b 0), .int (nI h)] τ (fun r u => r = nI (bgS S h) ∧ τ = u) := by
  refine x_enterI (by decide) (Nat.le_of_ble_eq_true rfl) (fun F hl hD hn hRm hC hR => ?_)
  subst hl hD
  change XW F 0 0 (mw c b τ) [(0, .ref (b 0)), (1, .int (nI h))] 0 []
  change FC F cX6_bestGuess RX6 (tyE c) at hC
  have hn1 := hV.n1
  have hn2 := hV.n2
  have hpn := hV.pn
  have hk6 := hV.k
  have hpk := hV.pk
  have hpk1 := SV.pk1 S
  have hch8 := hV.chips
  have hmk := hV.mask
  have hmk31 : S 0 1 < 2 ^ 31 := by omega
  refine x_iconst hC (v := (nI 0)) dX6_bestGuess_0 rfl ?_
  refine x_istore_n hC [(2, .int (nI 0)), (0, .ref (b 0)), (1, .int (nI h))] rfl (lt_n hn rfl) dX6_bestGuess_1 ?_
  refine x_iconst hC (v := (nI 1)) dX6_bestGuess_2 rfl ?_
  refine x_istore_n hC [(3, .int (nI 1)), (2, .int (nI 0)), (0, .ref (b 0)), (1, .int (nI h))] rfl (lt_n hn rfl) dX6_bestGuess_3 ?_
  refine x_lv [2, 3, 1, 0] rfl ?_
  have L4 : ∀ (N4 : Nat) (e : Nat) (i : Nat), 2 ^ S 0 2 - i < N4 → (1 ≤ i ∧ i ≤ 2 ^ S 0 2) → (e < i) → (e = amax (fun key => wt S (h ^^^ cw S key)) i) → XW F 0 0 (mw c b τ) [(0, .ref (b 0)), (1, .int (nI h)), (2, .int (nI e)), (3, .int (nI i))] 4 [] := by
    intro N4
    induction N4 with
    | zero => intro e i hN4 hi he hb; exact absurd hN4 (by omega)
    | succ N4 ih4 =>
      intro e i hN4 hi he hb
      refine x_iload_n hC 3 rfl dX6_bestGuess_4 ?_
      refine x_iconst hC (v := (nI 1)) dX6_bestGuess_5 rfl ?_
      refine x_aload_n hC 0 rfl dX6_bestGuess_6 ?_
      refine x_get hC fl_X6_80 dX6_bestGuess_7 0 rfl (v := .int (nI (S 0 2))) (xv hI.k) ?_
      refine x_ishlE hC (z := (nI (2 ^ (S 0 2)))) (nI_shl1 (by omega)) dX6_bestGuess_10 ?_
      refine x_icmp_geN hC 48 dX6_bestGuess_11 rfl (by omega) (by omega) (fun h11 => ?_) (fun h11 => ?_)
      · -- 11 T
        refine x_iload_n hC 2 rfl dX6_bestGuess_48 ?_
        exact x_iret hC hR dX6_bestGuess_49 (⟨by rw [hb, show i = 2 ^ S 0 2 by omega]; rfl, rfl⟩)
      · -- 11 F
        refine x_aload_n hC 0 rfl dX6_bestGuess_14 ?_
        refine x_iload_n hC 1 rfl dX6_bestGuess_15 ?_
        refine x_aload_n hC 0 rfl dX6_bestGuess_16 ?_
        refine x_iload_n hC 3 rfl dX6_bestGuess_17 ?_
        refine x_callVI hC cw_X6_128 (c_X6_codewordOf (key := i) (S := S) (by first | assumption | exact hI.mb | omega) (by first | assumption | exact hI.mb | omega) (by first | assumption | exact hI.mb | omega)) dX6_bestGuess_18 [.int (nI h), .ref (b 0)] rfl (Nat.le_of_ble_eq_true rfl) rfl (rm_ok hRm (by decide) (by decide)) 6 0 rfl rfl (fun r18 m18 hp18 => ?_)
        obtain ⟨rfl, rfl⟩ := hp18
        refine x_ixorE hC (z := (nI (h ^^^ (cw S i)))) (nI_xor _ _) dX6_bestGuess_21 ?_
        refine x_callVL hC cw_X6_156 (c_X6_weightOf (w := (h ^^^ (cw S i))) (S := S) hI hV (by have := xor_lt14 hh (cw_lt hV i); omega)) dX6_bestGuess_22 [] rfl (Nat.le_of_ble_eq_true rfl) rfl (rm_ok hRm (by decide) (by decide)) 6 0 rfl rfl (fun r22 m22 hp22 => ?_)
        obtain ⟨rfl, rfl⟩ := hp22
        refine x_aload_n hC 0 rfl dX6_bestGuess_25 ?_
        refine x_iload_n hC 1 rfl dX6_bestGuess_26 ?_
        refine x_aload_n hC 0 rfl dX6_bestGuess_27 ?_
        refine x_iload_n hC 2 rfl dX6_bestGuess_28 ?_
        refine x_callVI hC cw_X6_128 (c_X6_codewordOf (key := e) (S := S) hI.mb hV (by omega)) dX6_bestGuess_29 [.int (nI h), .ref (b 0), .long (lN (wt S (h ^^^ (cw S i))))] rfl (Nat.le_of_ble_eq_true rfl) rfl (rm_ok hRm (by decide) (by decide)) 6 0 rfl rfl (fun r29 m29 hp29 => ?_)
        obtain ⟨rfl, rfl⟩ := hp29
        refine x_ixorE hC (z := (nI (h ^^^ (cw S e)))) (nI_xor _ _) dX6_bestGuess_32 ?_
        refine x_callVL hC cw_X6_156 (c_X6_weightOf (w := (h ^^^ (cw S e))) (S := S) hI hV (by have := xor_lt14 hh (cw_lt hV e); omega)) dX6_bestGuess_33 [.long (lN (wt S (h ^^^ (cw S i))))] rfl (Nat.le_of_ble_eq_true rfl) rfl (rm_ok hRm (by decide) (by decide)) 6 0 rfl rfl (fun r33 m33 hp33 => ?_)
        obtain ⟨rfl, rfl⟩ := hp33
        refine x_lcmp hC dX6_bestGuess_36 ?_
        refine x_if_le hC 42 dX6_bestGuess_37 rfl (fun h37 => ?_) (fun h37 => ?_)
        · -- 37 T
          have g37 := lcmp_le (wt_b hV _) (wt_b hV _) h37
          refine x_iinc hC (z := 1) (v := (nI (i + 1))) 3 rfl (nI_add i 1) [(3, .int (nI (i + 1))), (0, .ref (b 0)), (1, .int (nI h)), (2, .int (nI e))] rfl (lt_n hn rfl) dX6_bestGuess_42 ?_
          refine x_goto hC 4 dX6_bestGuess_45 rfl ?_
          refine x_lv [1, 2, 3, 0] rfl ?_
          exact ih4 e (i + 1) (by omega) (by omega) (by omega) (by rw [amax_S, if_neg (by rw [← hb]; exact Nat.not_lt.mpr g37)]; exact hb)
        · -- 37 F
          have g37 := lcmp_gt (wt_b hV _) (wt_b hV _) h37
          refine x_iload_n hC 3 rfl dX6_bestGuess_40 ?_
          refine x_istore_n hC [(2, .int (nI i)), (0, .ref (b 0)), (1, .int (nI h)), (3, .int (nI i))] rfl (lt_n hn rfl) dX6_bestGuess_41 ?_
          refine x_iinc hC (z := 1) (v := (nI (i + 1))) 3 rfl (nI_add i 1) [(3, .int (nI (i + 1))), (2, .int (nI i)), (0, .ref (b 0)), (1, .int (nI h))] rfl (lt_n hn rfl) dX6_bestGuess_42 ?_
          refine x_goto hC 4 dX6_bestGuess_45 rfl ?_
          refine x_lv [2, 3, 1, 0] rfl ?_
          exact ih4 i (i + 1) (by omega) (by omega) (by omega) (by rw [amax_S, if_pos (by rw [← hb]; exact g37)])
  exact L4 _ 0 1 (Nat.lt_succ_self _) (by omega) (by omega) (by rw [amax_1])
set_option maxHeartbeats 4000000 in
set_option maxRecDepth 100000 in
theorem c_X6_guess {l : Launch} {D : va_G} {c : Nat → ClassId} {b : Nat → Nat} {τ : MM} {x : Int32} {S : SS} (hI : MI τ S) (hV : SV S)  : KI l D (tyE c) (mw c b) yX6_guess cX6_guess 2 .int (rmL 3) [.ref (b 0), .int x] τ (fun r u => r = (sp_guess S x).1 ∧ MI u (sp_guess S x).2) := by
  refine x_enterI (by decide) (Nat.le_of_ble_eq_true rfl) (fun F hl hD hn hRm hC hR => ?_)
  subst hl hD
  change XW F 0 0 (mw c b τ) [(0, .ref (b 0)), (1, .int x)] 0 []
  change FC F cX6_guess RX6 (tyE c) at hC
  have hn1 := hV.n1
  have hn2 := hV.n2
  have hpn := hV.pn
  have hk6 := hV.k
  have hpk := hV.pk
  have hpk1 := SV.pk1 S
  have hch8 := hV.chips
  have hmk := hV.mask
  have hmk31 : S 0 1 < 2 ^ 31 := by omega
  refine x_aload_n hC 0 rfl dX6_guess_0 ?_
  refine x_iload_n hC 1 rfl dX6_guess_1 ?_
  refine x_callVI hC cw_X6_104 (c_X6_isWord (x := x) (S := S) (by first | assumption | exact hI.mb | omega) (by first | assumption | exact hI.mb | omega)) dX6_guess_2 [] rfl (Nat.le_of_ble_eq_true rfl) rfl (rm_ok hRm (by decide) (by decide)) 6 0 rfl rfl (fun r2 m2 hp2 => ?_)
  obtain ⟨rfl, rfl⟩ := hp2
  refine x_if_eqB hC 16 dX6_guess_5 rfl (fun h5 => ?_) (fun h5 => ?_)
  · -- 5 T
    refine x_aload_n hC 0 rfl dX6_guess_16 ?_
    refine x_iconst hC (v := (zI (-1))) dX6_guess_17 rfl ?_
    refine x_callVI hC cw_X6_94 (c_X6_refuse (z := (-1)) (j := 1) (v := (S 1 1)) (by decide) (by decide) (hI.ref 1 (by decide))) dX6_guess_18 [] rfl (Nat.le_of_ble_eq_true rfl) rfl (rm_ok hRm (by decide) (by decide)) 6 0 rfl rfl (fun r18 m18 hp18 => ?_)
    obtain ⟨rfl, rfl⟩ := hp18
    exact x_iret hC hR dX6_guess_21 (sp_leafM (by simp [sp_guess, h5]) (hI.rfs 1 (by decide)))
  · -- 5 F
    obtain ⟨v, hv, rfl⟩ := isI_T h5
    have tv := tn_nI (v := v) (by omega)
    refine x_aload_n hC 0 rfl dX6_guess_8 ?_
    refine x_iload_n hC 1 rfl dX6_guess_9 ?_
    refine x_callVI hC cw_X6_160 (c_X6_bestGuess (h := v) (S := S) (by first | assumption | exact hI.mb | omega) (by first | assumption | exact hI.mb | omega) (by first | assumption | exact hI.mb | omega)) dX6_guess_10 [] rfl (Nat.le_of_ble_eq_true rfl) rfl (rm_ok hRm (by decide) (by decide)) 6 0 rfl rfl (fun r10 m10 hp10 => ?_)
    obtain ⟨rfl, rfl⟩ := hp10
    refine x_goto hC 21 dX6_guess_13 rfl ?_
    exact x_iret hC hR dX6_guess_21 (sp_leafM (by simp [sp_guess, h5, tv]) (hI))
set_option maxHeartbeats 4000000 in
set_option maxRecDepth 100000 in
theorem c_X6_leak {l : Launch} {D : va_G} {c : Nat → ClassId} {b : Nat → Nat} {τ : MM} {S : SS} (hI : MI τ S) (hV : SV S)  : KI l D (tyE c) (mw c b) yX6_leak cX6_leak 1 .int (rmL 2) [.ref (b 0)] τ (fun r u => r = (sp_leak S).1 ∧ MI u (sp_leak S).2) := by
  refine x_enterI (by decide) (Nat.le_of_ble_eq_true rfl) (fun F hl hD hn hRm hC hR => ?_)
  subst hl hD
  change XW F 0 0 (mw c b τ) [(0, .ref (b 0))] 0 []
  change FC F cX6_leak RX6 (tyE c) at hC
  have hn1 := hV.n1
  have hn2 := hV.n2
  have hpn := hV.pn
  have hk6 := hV.k
  have hpk := hV.pk
  have hpk1 := SV.pk1 S
  have hch8 := hV.chips
  have hmk := hV.mask
  have hmk31 : S 0 1 < 2 ^ 31 := by omega
  refine x_aload_n hC 0 rfl dX6_leak_0 ?_
  refine x_callVI hC cw_X6_124 (c_X6_open  (S := S) (by first | assumption | exact hI.mb | omega) (by first | assumption | exact hI.mb | omega)) dX6_leak_1 [] rfl (Nat.le_of_ble_eq_true rfl) rfl (rm_ok hRm (by decide) (by decide)) 6 0 rfl rfl (fun r1 m1 hp1 => ?_)
  obtain ⟨rfl, rfl⟩ := hp1
  refine x_callN hC cs_X6_131 (c_X6_bits (w := (opn S))  (opn_lt hV)) dX6_leak_4 [] rfl (Nat.le_of_ble_eq_true rfl) rfl (rm_ok hRm (by decide) (by decide)) ?_
  refine x_aload_n hC 0 rfl dX6_leak_7 ?_
  refine x_get hC fl_X6_80 dX6_leak_8 0 rfl (v := .int (nI (S 0 2))) (xv hI.k) ?_
  refine x_isubE hC (z := (zI ((((pc (opn S)) : Nat) : Int) - (((S 0 2) : Nat) : Int)))) (zI_sub (((pc (opn S)) : Nat) : Int) (((S 0 2) : Nat) : Int)) dX6_leak_11 ?_
  exact x_iret hC hR dX6_leak_12 (sp_leafM (by simp [sp_leak, opn]) (hI))
