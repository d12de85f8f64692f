/-! open cells, one by one -/
theorem oc_mono (m : Nat) {a b : Nat} (h : a ≤ b) : oc m a ≤ oc m b := by
  obtain ⟨k, rfl⟩ : ∃ k, b = a + k := ⟨b - a, by omega⟩
  clear h
  induction k with
  | zero => exact Nat.le_refl _
  | succ k ih =>
    refine Nat.le_trans ih ?_
    show _ ≤ oc m (a + k) + _
    omega
theorem oc_o {m p : Nat} (h : bt m p ≠ 1) : oc m (p + 1) = oc m p + 1 := by simp only [oc]; rw [if_neg h]
theorem oc_m {m p : Nat} (h : bt m p = 1) : oc m (p + 1) = oc m p := by simp only [oc]; rw [if_pos h, Nat.add_zero]
theorem oc_lt {m p q : Nat} (hp : bt m p ≠ 1) (h : p < q) : oc m p < oc m q := by
  have h1 := oc_mono m (show p + 1 ≤ q from h)
  rw [oc_o hp] at h1
  omega
theorem oc_inj {m p q : Nat} (hp : bt m p ≠ 1) (hq : bt m q ≠ 1) (h : oc m p = oc m q) : p = q := by
  rcases Nat.lt_trichotomy p q with z | z | z
  · have := oc_lt hp z; omega
  · exact z
  · have := oc_lt hq z; omega
theorem oc_ex {m i : Nat} : ∀ {c : Nat}, oc m c = i + 1 → ∃ p, p < c ∧ bt m p ≠ 1 ∧ oc m p = i
  | 0, h => by simp [oc] at h
  | c + 1, h => by
    by_cases q : bt m c = 1
    · rw [oc_m q] at h
      obtain ⟨p, h1, h2, h3⟩ := oc_ex h
      exact ⟨p, by omega, h2, h3⟩
    · rw [oc_o q] at h
      exact ⟨c, by omega, q, by omega⟩
theorem oc_all {m a b c : Nat} (h : oc m a = oc m b) (h1 : a ≤ c) (h2 : c < b) : bt m c = 1 := by
  apply Classical.byContradiction
  intro q
  have e1 := oc_mono m h1
  have e2 := oc_lt q h2
  omega
theorem g_const {m n : Nat} {G : Nat → Nat} (hG : ∀ c, c < n → (bt m c = 1 ∨ oc m c % 2 = 0) → G (c + 1) = G c) {a : Nat} : ∀ (b : Nat), a ≤ b → b ≤ n → oc m a = oc m b → G a = G b
  | 0, h, _, _ => by rw [show a = 0 by omega]
  | b + 1, h, hn, he => by
    by_cases q : a = b + 1
    · rw [q]
    · have h1 := oc_all he (show a ≤ b by omega) (Nat.lt_succ_self b)
      rw [hG b (by omega) (Or.inl h1)]
      exact g_const hG b (by omega) (by omega) (by rw [he, oc_m h1])
theorem g_two {m n : Nat} {G : Nat → Nat} (hG : ∀ c, c < n → (bt m c = 1 ∨ oc m c % 2 = 0) → G (c + 1) = G c) {i p q : Nat} (hi : i % 2 = 0) (hp : bt m p ≠ 1) (hpc : oc m p = i) (hq : q ≤ n) (hqc : oc m q = i + 1) : G q = G p ∧ p < q := by
  have h1 : p < q := by
    apply Classical.byContradiction
    intro z
    have := oc_mono m (show q ≤ p by omega)
    omega
  refine ⟨?_, h1⟩
  rw [← hG p (by omega) (Or.inr (by omega))]
  exact (g_const hG q (by omega) hq (by rw [oc_o hp, hpc, hqc])).symm
theorem mt_two {m p q : Nat} (hp : bt m p ≠ 1) (h : p < q) (hc : oc m q = oc m p + 1) : mt m q = p := by
  have h1 : bt (nd (2 ^ q - 1) m) p = 1 := by rw [bt_nd, if_neg hp, bt_ones, if_pos h]
  have h2 : ∀ j, p < j → bt (nd (2 ^ q - 1) m) j = 0 := by
    intro j hj
    rw [bt_nd, bt_ones]
    by_cases z : j < q
    · rw [if_pos (oc_all (a := p + 1) (b := q) (by rw [oc_o hp, hc]) (by omega) z)]
    · rw [if_neg z]; split <;> rfl
  have h3 : 2 ^ p ≤ nd (2 ^ q - 1) m := Nat.ge_two_pow_of_testBit (by rw [bt_testBit, h1]; rfl)
  have h4 : nd (2 ^ q - 1) m < 2 ^ (p + 1) := Nat.lt_pow_two_of_testBit _ (fun j hj => by rw [bt_testBit, h2 j (by omega)]; rfl)
  have h5 : nd (2 ^ q - 1) m ≠ 0 := by have := Nat.two_pow_pos p; omega
  unfold mt
  exact (Nat.log2_eq_iff h5).mpr ⟨h3, h4⟩
theorem evx_sk {m w n : Nat} (hn : n ≤ 14) : ∀ c, c < n → (bt m c = 1 ∨ oc m c % 2 = 0) → evx m w (c + 1) = evx m w c := fun c hc h => (evx_n (fun q => by rw [pc_oc m (by omega)] at q; rcases h with h | h; exact q.1 h; omega)).symm
theorem exx_sk {m n : Nat} {le : Nat → Nat} (hn : n ≤ 14) : ∀ c, c < n → (bt m c = 1 ∨ oc m c % 2 = 0) → exx m le (c + 1) = exx m le c := fun c hc h => by
  show (if _ then _ else _) = _
  rw [if_neg (fun q => by rw [pc_oc m (by omega)] at q; rcases h with h | h; exact q.1 h; omega)]
theorem evx_st {m w i p q n : Nat} (hn : n ≤ 14) (hi : i % 2 = 0) (hp : bt m p ≠ 1) (hpc : oc m p = i) (hqn : q < n) (hq : bt m q ≠ 1) (hqc : oc m q = i + 1) : evx m w (q + 1) = if bt w p = bt w q then evx m w p else 2 * evx m w p + bt w p := by
  have h1 := g_two (evx_sk (m := m) (w := w) hn) hi hp hpc (by omega) hqc
  have h2 := mt_two hp h1.2 (by omega)
  show (if bt m q ≠ 1 ∧ pc (nd (2 ^ q - 1) m) % 2 = 1 ∧ bt w (mt m q) ≠ bt w q then evx m w q * 2 ^ 1 ||| bt w (mt m q) else evx m w q) = _
  rw [h2, h1.1, pc_oc m (by omega), or_bit (bt_lt w p)]
  by_cases z : bt w p = bt w q
  · rw [if_pos z, if_neg (fun y => y.2.2 z)]
  · rw [if_neg z, if_pos ⟨hq, by omega, z⟩]
theorem exx_st {m i p q n : Nat} {le : Nat → Nat} (hn : n ≤ 14) (hi : i % 2 = 0) (hp : bt m p ≠ 1) (hpc : oc m p = i) (hqn : q < n) (hq : bt m q ≠ 1) (hqc : oc m q = i + 1) : exx m le (q + 1) = exx m le p + (le p * (8 - le q) + (8 - le p) * le q) := by
  have h1 := g_two (exx_sk (m := m) (le := le) hn) hi hp hpc (by omega) hqc
  have h2 := mt_two hp h1.2 (by omega)
  show (if bt m q ≠ 1 ∧ pc (nd (2 ^ q - 1) m) % 2 = 1 then exx m le q + (le (mt m q) * (8 - le q) + (8 - le (mt m q)) * le q) else exx m le q) = _
  rw [h2, h1.1, pc_oc m (by omega), if_pos ⟨hq, by omega⟩]
/-- what G is where i cells were open -/
def AT (m n : Nat) (G : Nat → Nat) (i x : Nat) : Prop := ∀ c, c ≤ n → oc m c = i → x = G c
theorem AT.step {m n : Nat} {G : Nat → Nat} {i x p q y : Nat} (hG : ∀ c, c < n → (bt m c = 1 ∨ oc m c % 2 = 0) → G (c + 1) = G c) (hqn : q < n) (hq : bt m q ≠ 1) (hqc : oc m q = i + 1) (hy : y = G (q + 1)) : AT m n G (i + 2) y := by
  intro c hc he
  rw [hy]
  refine g_const hG c ?_ hc (by rw [oc_o hq]; omega)
  apply Classical.byContradiction
  intro z
  have := oc_mono m (show c ≤ q by omega)
  omega
theorem AT.fin {m n : Nat} {G : Nat → Nat} {i x : Nat} (h : AT m n G i x) (hG : ∀ c, c < n → (bt m c = 1 ∨ oc m c % 2 = 0) → G (c + 1) = G c) (hi : i % 2 = 0) (h1 : i ≤ oc m n) (h2 : oc m n ≤ i + 1) : x = G n := by
  by_cases z : oc m n = i
  · exact h n (Nat.le_refl _) z
  · obtain ⟨p, hp1, hp2, hp3⟩ := oc_ex (show oc m n = i + 1 by omega)
    rw [(g_two hG hi hp2 hp3 (Nat.le_refl _) (by omega)).1]
    exact h p (by omega) hp3
theorem log2_add {k v : Nat} (h : v < 2 ^ k) : Nat.log2 (2 ^ k + v) = k := (Nat.log2_eq_iff (by have := Nat.two_pow_pos k; omega)).mpr ⟨by omega, by rw [Nat.pow_succ]; omega⟩

set_option maxHeartbeats 4000000 in
set_option maxRecDepth 100000 in
theorem c_X6_openAt {l : Launch} {D : va_G} {c : Nat → ClassId} {b : Nat → Nat} {τ : MM} {i : Nat} {S : SS} (hI : MI τ S) (hV : SV S) (hi31 : i < 2 ^ 31) : KI l D (tyE c) (mw c b) yX6_openAt cX6_openAt 4 .int (rmL 1) [.ref (b 0), .int (nI i)] τ (fun r u => ((∃ p, p < S 0 0 ∧ bt (S 0 1) p ≠ 1 ∧ oc (S 0 1) p = i ∧ r = nI p) ∨ (oc (S 0 1) (S 0 0) ≤ i ∧ r = zI (-1))) ∧ τ = u) := by
  refine x_enterI (by decide) (Nat.le_of_ble_eq_true rfl) (fun F hl hD hn hRm hC hR => ?_)
  subst hl hD
  change XW F 0 0 (mw c b τ) [(0, .ref (b 0)), (1, .int (nI i))] 0 []
  change FC F cX6_openAt RX6 (tyE c) at hC
  have hn1 := hV.n1
  have hn2 := hV.n2
  have hpn := hV.pn
  have hk6 := hV.k
  have hpk := hV.pk
  have hpk1 := SV.pk1 S
  have hch8 := hV.chips
  have hmk := hV.mask
  have hmk31 : S 0 1 < 2 ^ 31 := by omega
  refine x_iload_n hC 1 rfl dX6_openAt_0 ?_
  refine x_istore_n hC [(2, .int (nI i)), (0, .ref (b 0)), (1, .int (nI i))] rfl (lt_n hn rfl) dX6_openAt_1 ?_
  refine x_iconst hC (v := (nI 0)) dX6_openAt_2 rfl ?_
  refine x_istore_n hC [(3, .int (nI 0)), (2, .int (nI i)), (0, .ref (b 0)), (1, .int (nI i))] rfl (lt_n hn rfl) dX6_openAt_3 ?_
  refine x_lv [2, 3, 1, 0] rfl ?_
  have L4 : ∀ (N4 : Nat) (lf : Nat) (k0 : Nat), S 0 0 - k0 < N4 → (k0 ≤ S 0 0) → (lf + oc (S 0 1) k0 = i) → XW F 0 0 (mw c b τ) [(0, .ref (b 0)), (1, .int (nI i)), (2, .int (nI lf)), (3, .int (nI k0))] 4 [] := by
    intro N4
    induction N4 with
    | zero => intro lf k0 hN4 hk hl; exact absurd hN4 (by omega)
    | succ N4 ih4 =>
      intro lf k0 hN4 hk hl
      refine x_iload_n hC 3 rfl dX6_openAt_4 ?_
      refine x_aload_n hC 0 rfl dX6_openAt_5 ?_
      refine x_get hC fl_X6_44 dX6_openAt_6 0 rfl (v := .int (nI (S 0 0))) (xv hI.n) ?_
      refine x_icmp_geN hC 42 dX6_openAt_9 rfl (by omega) (by omega) (fun h9 => ?_) (fun h9 => ?_)
      · -- 9 T
        refine x_iconst hC (v := (zI (-1))) dX6_openAt_42 rfl ?_
        exact x_iret hC hR dX6_openAt_43 (⟨Or.inr ⟨by rw [← show k0 = S 0 0 by omega]; omega, rfl⟩, rfl⟩)
      · -- 9 F
        refine x_aload_n hC 0 rfl dX6_openAt_12 ?_
        refine x_get hC fl_X6_77 dX6_openAt_13 0 rfl (v := .int (nI (S 0 1))) (xv hI.mask) ?_
        refine x_iload_n hC 3 rfl dX6_openAt_16 ?_
        refine x_ishrE hC (z := (nI ((S 0 1) / 2 ^ k0))) (nI_shr (by omega) (by omega)) dX6_openAt_17 ?_
        refine x_iconst hC (v := (nI 1)) dX6_openAt_18 rfl ?_
        refine x_iandE hC (z := (nI (bt (S 0 1) k0))) (nI_and1 _) dX6_openAt_19 ?_
        refine x_iconst hC (v := (nI 1)) dX6_openAt_20 rfl ?_
        refine x_icmp_neN hC 27 dX6_openAt_21 rfl (by have := bt_lt (S 0 1) k0; omega) (by decide) (fun h21 => ?_) (fun h21 => ?_)
        · -- 21 T
          refine x_iload_n hC 2 rfl dX6_openAt_27 ?_
          refine x_if_neN hC 33 dX6_openAt_28 rfl (by omega) (fun h28 => ?_) (fun h28 => ?_)
          · -- 28 T
            refine x_iinc hC (z := -1) (v := (nI (lf - 1))) 2 rfl (nI_dec (b := 1) (by omega)) [(2, .int (nI (lf - 1))), (0, .ref (b 0)), (1, .int (nI i)), (3, .int (nI k0))] rfl (lt_n hn rfl) dX6_openAt_33 ?_
            refine x_iinc hC (z := 1) (v := (nI (k0 + 1))) 3 rfl (nI_add k0 1) [(3, .int (nI (k0 + 1))), (2, .int (nI (lf - 1))), (0, .ref (b 0)), (1, .int (nI i))] rfl (lt_n hn rfl) dX6_openAt_36 ?_
            refine x_goto hC 4 dX6_openAt_39 rfl ?_
            refine x_lv [2, 3, 1, 0] rfl ?_
            exact ih4 (lf - 1) (k0 + 1) (by omega) (by omega) (by rw [oc_o h21]; omega)
          · -- 28 F
            refine x_iload_n hC 3 rfl dX6_openAt_31 ?_
            exact x_iret hC hR dX6_openAt_32 (⟨Or.inl ⟨k0, by omega, h21, by omega, rfl⟩, rfl⟩)
        · -- 21 F
          refine x_goto hC 36 dX6_openAt_24 rfl ?_
          refine x_iinc hC (z := 1) (v := (nI (k0 + 1))) 3 rfl (nI_add k0 1) [(3, .int (nI (k0 + 1))), (0, .ref (b 0)), (1, .int (nI i)), (2, .int (nI lf))] rfl (lt_n hn rfl) dX6_openAt_36 ?_
          refine x_goto hC 4 dX6_openAt_39 rfl ?_
          refine x_lv [1, 2, 3, 0] rfl ?_
          exact ih4 lf (k0 + 1) (by omega) (by omega) (by rw [oc_m h21]; omega)
  exact L4 _ i 0 (Nat.lt_succ_self _) (by omega) rfl
set_option maxHeartbeats 4000000 in
set_option maxRecDepth 100000 in
theorem c_X6_even {l : Launch} {D : va_G} {c : Nat → ClassId} {b : Nat → Nat} {τ : MM} {x : Int32} {t : Int32} {S : SS} (hI : MI τ S) (hV : SV S)  : KI l D (tyE c) (mw c b) yX6_even cX6_even 8 .int (rmL 3) [.ref (b 0), .int x, .int t] τ (fun r u => r = (sp_even S x t).1 ∧ MI u (sp_even S x t).2) := by
  refine x_enterI (by decide) (Nat.le_of_ble_eq_true rfl) (fun F hl hD hn hRm hC hR => ?_)
  subst hl hD
  change XW F 0 0 (mw c b τ) [(0, .ref (b 0)), (1, .int x), (2, .int t)] 0 []
  change FC F cX6_even RX6 (tyE c) at hC
  have hn1 := hV.n1
  have hn2 := hV.n2
  have hpn := hV.pn
  have hk6 := hV.k
  have hpk := hV.pk
  have hpk1 := SV.pk1 S
  have hch8 := hV.chips
  have hmk := hV.mask
  have hmk31 : S 0 1 < 2 ^ 31 := by omega
  have hol := oc_le (S 0 1) (S 0 0)
  refine x_aload_n hC 0 rfl dX6_even_0 ?_
  refine x_iload_n hC 1 rfl dX6_even_1 ?_
  refine x_callVI hC cw_X6_104 (c_X6_isWord (x := x) (S := S) (by first | assumption | exact hI.mb | omega) (by first | assumption | exact hI.mb | omega)) dX6_even_2 [] rfl (Nat.le_of_ble_eq_true rfl) rfl (rm_ok hRm (by decide) (by decide)) 6 0 rfl rfl (fun r2 m2 hp2 => ?_)
  obtain ⟨rfl, rfl⟩ := hp2
  refine x_if_neB hC 14 dX6_even_5 rfl (fun h5 => ?_) (fun h5 => ?_)
  · -- 5 T
    obtain ⟨v, hv, rfl⟩ := isI_T h5
    have tv := tn_nI (v := v) (by omega)
    refine x_iload_n hC 2 rfl dX6_even_14 ?_
    refine x_iconst hC (v := (nI 2)) dX6_even_15 rfl ?_
    refine x_callN hC cs_X6_73 (c_X6_isIn (x := t) (m := 2)  (by first | assumption | exact hI.mb | omega)) dX6_even_16 [] rfl (Nat.le_of_ble_eq_true rfl) rfl (rm_ok hRm (by decide) (by decide)) ?_
    refine x_if_neB hC 29 dX6_even_19 rfl (fun h19 => ?_) (fun h19 => ?_)
    · -- 19 T
      obtain ⟨y, hy, rfl⟩ := isI_T h19
      have ty := tn_nI (v := y) (by omega)
      refine x_iconst hC (v := (nI 0)) dX6_even_29 rfl ?_
      refine x_istore_n hC [(3, .int (nI 0)), (0, .ref (b 0)), (1, .int (nI v)), (2, .int (nI y))] rfl (lt_n hn rfl) dX6_even_30 ?_
      refine x_iconst hC (v := (nI 0)) dX6_even_31 rfl ?_
      refine x_istore hC [(4, .int (nI 0)), (3, .int (nI 0)), (0, .ref (b 0)), (1, .int (nI v)), (2, .int (nI y))] rfl (lt_n hn rfl) dX6_even_32 ?_
      refine x_iconst hC (v := (nI 0)) dX6_even_34 rfl ?_
      refine x_istore hC [(5, .int (nI 0)), (4, .int (nI 0)), (3, .int (nI 0)), (0, .ref (b 0)), (1, .int (nI v)), (2, .int (nI y))] rfl (lt_n hn rfl) dX6_even_35 ?_
      refine x_lv [3, 4, 5, 2, 1, 0] rfl ?_
      have L37 : ∀ (N37 : Nat) (k0 : Nat) (s : Nat) (i : Nat), 16 - i < N37 → (i % 2 = 0) → (i ≤ oc (S 0 1) (S 0 0)) → (s < 2 ^ k0) → (AT (S 0 1) (S 0 0) (evx (S 0 1) v) i (2 ^ k0 + s)) → XW F 0 0 (mw c b τ) [(0, .ref (b 0)), (1, .int (nI v)), (2, .int (nI y)), (3, .int (nI k0)), (4, .int (nI s)), (5, .int (nI i))] 37 [] := by
        intro N37
        induction N37 with
        | zero => intro k0 s i hN37 hi2 hio hs hat; exact absurd hN37 (by omega)
        | succ N37 ih37 =>
          intro k0 s i hN37 hi2 hio hs hat
          refine x_aload_n hC 0 rfl dX6_even_37 ?_
          refine x_iload hC 5 rfl dX6_even_38 ?_
          refine x_iconst hC (v := (nI 1)) dX6_even_40 rfl ?_
          refine x_iaddE hC (z := (nI (i + 1))) (nI_add _ _) dX6_even_41 ?_
          refine x_callVI hC cw_X6_163 (c_X6_openAt (i := (i + 1)) (S := S) hI hV (by omega)) dX6_even_42 [] rfl (Nat.le_of_ble_eq_true rfl) rfl (rm_ok hRm (by decide) (by decide)) 6 0 rfl rfl (fun r42 m42 hp42 => ?_)
          obtain ⟨hq42, rfl⟩ := hp42
          rcases hq42 with ⟨p42, hn42, ho42, hc42, rfl⟩ | ⟨hno42, rfl⟩
          · skip
            refine x_if_lt_F hC 102 dX6_even_45 rfl (by rw [i32_lt, i32_0, nI_toI (by omega)]; omega) ?_
            refine x_iload_n hC 1 rfl dX6_even_48 ?_
            refine x_aload_n hC 0 rfl dX6_even_49 ?_
            refine x_iload hC 5 rfl dX6_even_50 ?_
            refine x_callVI hC cw_X6_163 (c_X6_openAt (i := i) (S := S) hI hV (by omega)) dX6_even_52 [.int (nI v)] rfl (Nat.le_of_ble_eq_true rfl) rfl (rm_ok hRm (by decide) (by decide)) 6 0 rfl rfl (fun r52 m52 hp52 => ?_)
            obtain ⟨hq52, rfl⟩ := hp52
            rcases hq52 with ⟨p52, hn52, ho52, hc52, rfl⟩ | ⟨hno52, rfl⟩
            · skip
              refine x_ishrE hC (z := (nI (v / 2 ^ p52))) (nI_shr (by omega) (by omega)) dX6_even_55 ?_
              refine x_iconst hC (v := (nI 1)) dX6_even_56 rfl ?_
              refine x_iandE hC (z := (nI (bt v p52))) (nI_and1 _) dX6_even_57 ?_
              refine x_istore hC [(6, .int (nI (bt v p52))), (0, .ref (b 0)), (1, .int (nI v)), (2, .int (nI y)), (3, .int (nI k0)), (4, .int (nI s)), (5, .int (nI i))] rfl (lt_n hn rfl) dX6_even_58 ?_
              refine x_iload_n hC 2 rfl dX6_even_60 ?_
              refine x_aload_n hC 1 rfl dX6_even_61 ?_
              refine x_iload hC 6 rfl dX6_even_62 ?_
              refine x_iconst hC (v := (nI 1)) dX6_even_64 rfl ?_
              refine x_iaddE hC (z := (nI (i + 1))) (nI_add _ _) dX6_even_65 ?_
              refine x_callVI hC cw_X6_163 (c_X6_openAt (i := (i + 1)) (S := S) hI hV (by omega)) dX6_even_66 [.int (nI v)] rfl (Nat.le_of_ble_eq_true rfl) rfl (rm_ok hRm (by decide) (by decide)) 6 0 rfl rfl (fun r66 m66 hp66 => ?_)
              obtain ⟨hq66, rfl⟩ := hp66
              rcases hq66 with ⟨p66, hn66, ho66, hc66, rfl⟩ | ⟨hno66, rfl⟩
              · skip
                refine x_top (x := nI p66) (y := nI p42) (congrArg nI (oc_inj ho66 ho42 (by omega))) ?_
                refine x_ishrE hC (z := (nI (v / 2 ^ p42))) (nI_shr (by omega) (by omega)) dX6_even_69 ?_
                refine x_iconst hC (v := (nI 1)) dX6_even_70 rfl ?_
                refine x_iandE hC (z := (nI (bt v p42))) (nI_and1 _) dX6_even_71 ?_
                refine x_istore hC [(7, .int (nI (bt v p42))), (6, .int (nI (bt v p52))), (0, .ref (b 0)), (1, .int (nI v)), (2, .int (nI y)), (3, .int (nI k0)), (4, .int (nI s)), (5, .int (nI i))] rfl (lt_n hn rfl) dX6_even_72 ?_
                refine x_iload hC 1 rfl dX6_even_74 ?_
                refine x_iload hC 0 rfl dX6_even_76 ?_
                refine x_icmp_neN hC 84 dX6_even_78 rfl (by have := bt_lt v p52; omega) (by have := bt_lt v p42; omega) (fun h78 => ?_) (fun h78 => ?_)
                · -- 78 T
                  refine x_iinc hC (z := 1) (v := (nI (k0 + 1))) 5 rfl (nI_add k0 1) [(3, .int (nI (k0 + 1))), (7, .int (nI (bt v p42))), (6, .int (nI (bt v p52))), (0, .ref (b 0)), (1, .int (nI v)), (2, .int (nI y)), (4, .int (nI s)), (5, .int (nI i))] rfl (lt_n hn rfl) dX6_even_84 ?_
                  refine x_iconst hC (v := (nI 2)) dX6_even_87 rfl ?_
                  refine x_iload hC 6 rfl dX6_even_88 ?_
                  refine x_imulE hC (z := (nI (2 * s))) (pk_mul _ _) dX6_even_90 ?_
                  refine x_iload hC 2 rfl dX6_even_91 ?_
                  refine x_iaddE hC (z := (nI ((2 * s) + (bt v p52)))) (nI_add _ _) dX6_even_93 ?_
                  refine x_istore hC [(4, .int (nI ((2 * s) + (bt v p52)))), (3, .int (nI (k0 + 1))), (7, .int (nI (bt v p42))), (6, .int (nI (bt v p52))), (0, .ref (b 0)), (1, .int (nI v)), (2, .int (nI y)), (5, .int (nI i))] rfl (lt_n hn rfl) dX6_even_94 ?_
                  refine x_iinc hC (z := 2) (v := (nI (i + 2))) 7 rfl (nI_add i 2) [(5, .int (nI (i + 2))), (4, .int (nI ((2 * s) + (bt v p52)))), (3, .int (nI (k0 + 1))), (7, .int (nI (bt v p42))), (6, .int (nI (bt v p52))), (0, .ref (b 0)), (1, .int (nI v)), (2, .int (nI y))] rfl (lt_n hn rfl) dX6_even_96 ?_
                  refine x_goto hC 37 dX6_even_99 rfl ?_
                  refine x_lv [5, 6, 7, 2, 1, 0] rfl ?_
                  exact ih37 (k0 + 1) ((2 * s) + (bt v p52)) (i + 2) (by omega) (by omega) (by have := oc_mono (S 0 1) (show p42 + 1 ≤ S 0 0 from hn42); rw [oc_o ho42] at this; omega) (by have := bt_lt v p52; rw [Nat.pow_succ]; omega) (AT.step (x := 0) (p := 0) (evx_sk hn2) hn42 ho42 hc42 (by rw [evx_st (w := v) hn2 hi2 ho52 hc52 hn42 ho42 hc42, if_neg h78, ← hat p52 (by omega) hc52, Nat.pow_succ]; omega))
                · -- 78 F
                  refine x_goto hC 96 dX6_even_81 rfl ?_
                  refine x_iinc hC (z := 2) (v := (nI (i + 2))) 7 rfl (nI_add i 2) [(5, .int (nI (i + 2))), (7, .int (nI (bt v p42))), (6, .int (nI (bt v p52))), (0, .ref (b 0)), (1, .int (nI v)), (2, .int (nI y)), (3, .int (nI k0)), (4, .int (nI s))] rfl (lt_n hn rfl) dX6_even_96 ?_
                  refine x_goto hC 37 dX6_even_99 rfl ?_
                  refine x_lv [3, 4, 5, 6, 7, 0] rfl ?_
                  exact ih37 k0 s (i + 2) (by omega) (by omega) (by have := oc_mono (S 0 1) (show p42 + 1 ≤ S 0 0 from hn42); rw [oc_o ho42] at this; omega) hs (AT.step (x := 0) (p := 0) (evx_sk hn2) hn42 ho42 hc42 (by rw [evx_st (w := v) hn2 hi2 ho52 hc52 hn42 ho42 hc42, if_pos h78]; exact hat p52 (by omega) hc52))
              · skip
                exact absurd (oc_mono (S 0 1) (show p42 + 1 ≤ S 0 0 from hn42)) (by rw [oc_o ho42]; omega)
            · skip
              exact absurd (oc_mono (S 0 1) (show p42 + 1 ≤ S 0 0 from hn42)) (by rw [oc_o ho42]; omega)
          · skip
            refine x_if_lt_T hC 102 dX6_even_45 rfl (by decide) ?_
            refine x_iload_n hC 2 rfl dX6_even_102 ?_
            refine x_if_neN hC 110 dX6_even_103 rfl (by omega) (fun h103 => ?_) (fun h103 => ?_)
            · -- 103 T
              refine x_iload hC 4 rfl dX6_even_110 ?_
              exact x_iret hC hR dX6_even_112 ((have hev : 2 ^ k0 + s = evS S v := hat.fin (evx_sk hn2) hi2 hio (by omega); sp_leafM (by simp only [sp_even, h5, h19, tv, ty, if_true]; rw [← hev, log2_add hs, if_neg h103, Nat.add_sub_cancel_left]) hI))
            · -- 103 F
              refine x_iload_n hC 3 rfl dX6_even_106 ?_
              refine x_goto hC 112 dX6_even_107 rfl ?_
              exact x_iret hC hR dX6_even_112 ((have hev : 2 ^ k0 + s = evS S v := hat.fin (evx_sk hn2) hi2 hio (by omega); sp_leafM (by simp only [sp_even, h5, h19, tv, ty, if_true]; rw [← hev, log2_add hs, if_pos h103]) hI))
      exact L37 _ 0 0 0 (Nat.lt_succ_self _) rfl (Nat.zero_le _) (by decide) (fun c hc he => (g_const (evx_sk hn2) c (Nat.zero_le _) hc he.symm))
    · -- 19 F
      refine x_aload_n hC 0 rfl dX6_even_22 ?_
      refine x_bipush hC (v := (zI (-2))) dX6_even_23 rfl ?_
      refine x_callVI hC cw_X6_94 (c_X6_refuse (z := (-2)) (j := 2) (v := (S 1 2)) (by decide) (by decide) (hI.ref 2 (by decide))) dX6_even_25 [] rfl (Nat.le_of_ble_eq_true rfl) rfl (rm_ok hRm (by decide) (by decide)) 6 0 rfl rfl (fun r25 m25 hp25 => ?_)
      obtain ⟨rfl, rfl⟩ := hp25
      exact x_iret hC hR dX6_even_28 (sp_leafM (by simp [sp_even, h5, h19, tv]) (hI.rfs 2 (by decide)))
  · -- 5 F
    refine x_aload_n hC 0 rfl dX6_even_8 ?_
    refine x_iconst hC (v := (zI (-1))) dX6_even_9 rfl ?_
    refine x_callVI hC cw_X6_94 (c_X6_refuse (z := (-1)) (j := 1) (v := (S 1 1)) (by decide) (by decide) (hI.ref 1 (by decide))) dX6_even_10 [] rfl (Nat.le_of_ble_eq_true rfl) rfl (rm_ok hRm (by decide) (by decide)) 6 0 rfl rfl (fun r10 m10 hp10 => ?_)
    obtain ⟨rfl, rfl⟩ := hp10
    exact x_iret hC hR dX6_even_13 (sp_leafM (by simp [sp_even, h5]) (hI.rfs 1 (by decide)))
set_option maxHeartbeats 4000000 in
set_option maxRecDepth 100000 in
theorem c_X6_expected {l : Launch} {D : va_G} {c : Nat → ClassId} {b : Nat → Nat} {τ : MM} {S : SS} (hI : MI τ S) (hV : SV S)  : KI l D (tyE c) (mw c b) yX6_expected cX6_expected 5 .int (rmL 2) [.ref (b 0)] τ (fun r u => r = (sp_expected S).1 ∧ MI u (sp_expected S).2) := by
  refine x_enterI (by decide) (Nat.le_of_ble_eq_true rfl) (fun F hl hD hn hRm hC hR => ?_)
  subst hl hD
  change XW F 0 0 (mw c b τ) [(0, .ref (b 0))] 0 []
  change FC F cX6_expected RX6 (tyE c) at hC
  have hn1 := hV.n1
  have hn2 := hV.n2
  have hpn := hV.pn
  have hk6 := hV.k
  have hpk := hV.pk
  have hpk1 := SV.pk1 S
  have hch8 := hV.chips
  have hmk := hV.mask
  have hmk31 : S 0 1 < 2 ^ 31 := by omega
  have hol := oc_le (S 0 1) (S 0 0)
  refine x_iconst hC (v := (nI 0)) dX6_expected_0 rfl ?_
  refine x_istore_n hC [(1, .int (nI 0)), (0, .ref (b 0))] rfl (lt_n hn rfl) dX6_expected_1 ?_
  refine x_iconst hC (v := (nI 0)) dX6_expected_2 rfl ?_
  refine x_istore_n hC [(2, .int (nI 0)), (1, .int (nI 0)), (0, .ref (b 0))] rfl (lt_n hn rfl) dX6_expected_3 ?_
  refine x_lv [2, 1, 0] rfl ?_
  have L4 : ∀ (N4 : Nat) (s : Nat) (i : Nat), 16 - i < N4 → (i % 2 = 0) → (i ≤ oc (S 0 1) (S 0 0)) → (AT (S 0 1) (S 0 0) (exx (S 0 1) (S 4)) i s) → XW F 0 0 (mw c b τ) [(0, .ref (b 0)), (1, .int (nI s)), (2, .int (nI i))] 4 [] := by
    intro N4
    induction N4 with
    | zero => intro s i hN4 hi2 hio hat; exact absurd hN4 (by omega)
    | succ N4 ih4 =>
      intro s i hN4 hi2 hio hat
      refine x_aload_n hC 0 rfl dX6_expected_4 ?_
      refine x_iload_n hC 2 rfl dX6_expected_5 ?_
      refine x_iconst hC (v := (nI 1)) dX6_expected_6 rfl ?_
      refine x_iaddE hC (z := (nI (i + 1))) (nI_add _ _) dX6_expected_7 ?_
      refine x_callVI hC cw_X6_163 (c_X6_openAt (i := (i + 1)) (S := S) hI hV (by omega)) dX6_expected_8 [] rfl (Nat.le_of_ble_eq_true rfl) rfl (rm_ok hRm (by decide) (by decide)) 6 0 rfl rfl (fun r8 m8 hp8 => ?_)
      obtain ⟨hq8, rfl⟩ := hp8
      rcases hq8 with ⟨p8, hn8, ho8, hc8, rfl⟩ | ⟨hno8, rfl⟩
      · skip
        refine x_if_lt_F hC 63 dX6_expected_11 rfl (by rw [i32_lt, i32_0, nI_toI (by omega)]; omega) ?_
        refine x_aload_n hC 0 rfl dX6_expected_14 ?_
        refine x_get hC fl_X6_19 dX6_expected_15 0 rfl rfl ?_
        refine x_aload_n hC 0 rfl dX6_expected_18 ?_
        refine x_iload_n hC 2 rfl dX6_expected_19 ?_
        refine x_callVI hC cw_X6_163 (c_X6_openAt (i := i) (S := S) hI hV (by omega)) dX6_expected_20 [.ref (b 4)] rfl (Nat.le_of_ble_eq_true rfl) rfl (rm_ok hRm (by decide) (by decide)) 6 0 rfl rfl (fun r20 m20 hp20 => ?_)
        obtain ⟨hq20, rfl⟩ := hp20
        rcases hq20 with ⟨p20, hn20, ho20, hc20, rfl⟩ | ⟨hno20, rfl⟩
        · skip
          refine x_iald hC 4 0 rfl rfl (y := (nI (S 4 p20))) (by omega) (by decide) (hI.le p20 (by omega)) dX6_expected_23 ?_
          refine x_istore_n hC [(3, .int (nI (S 4 p20))), (0, .ref (b 0)), (1, .int (nI s)), (2, .int (nI i))] rfl (lt_n hn rfl) dX6_expected_24 ?_
          refine x_aload_n hC 1 rfl dX6_expected_25 ?_
          refine x_get hC fl_X6_19 dX6_expected_26 0 rfl rfl ?_
          refine x_aload_n hC 1 rfl dX6_expected_29 ?_
          refine x_iload_n hC 3 rfl dX6_expected_30 ?_
          refine x_iconst hC (v := (nI 1)) dX6_expected_31 rfl ?_
          refine x_iaddE hC (z := (nI (i + 1))) (nI_add _ _) dX6_expected_32 ?_
          refine x_callVI hC cw_X6_163 (c_X6_openAt (i := (i + 1)) (S := S) hI hV (by omega)) dX6_expected_33 [.ref (b 4)] rfl (Nat.le_of_ble_eq_true rfl) rfl (rm_ok hRm (by decide) (by decide)) 6 0 rfl rfl (fun r33 m33 hp33 => ?_)
          obtain ⟨hq33, rfl⟩ := hp33
          rcases hq33 with ⟨p33, hn33, ho33, hc33, rfl⟩ | ⟨hno33, rfl⟩
          · skip
            refine x_top (x := nI p33) (y := nI p8) (congrArg nI (oc_inj ho33 ho8 (by omega))) ?_
            refine x_iald hC 4 0 rfl rfl (y := (nI (S 4 p8))) (by omega) (by decide) (hI.le p8 (by omega)) dX6_expected_36 ?_
            refine x_istore hC [(4, .int (nI (S 4 p8))), (3, .int (nI (S 4 p20))), (0, .ref (b 0)), (1, .int (nI s)), (2, .int (nI i))] rfl (lt_n hn rfl) dX6_expected_37 ?_
            have hl1 := hV.told p8 (by omega)
            have hl2 := hV.told p20 (by omega)
            refine x_iload_n hC 3 rfl dX6_expected_39 ?_
            refine x_iload_n hC 1 rfl dX6_expected_40 ?_
            refine x_bipush hC (v := (nI 8)) dX6_expected_41 rfl ?_
            refine x_iload hC 0 rfl dX6_expected_43 ?_
            refine x_isubE hC (z := (nI (8 - (S 4 p8)))) (pk_sub (by omega)) dX6_expected_45 ?_
            refine x_imulE hC (z := (nI ((S 4 p20) * (8 - (S 4 p8))))) (pk_mul _ _) dX6_expected_46 ?_
            refine x_bipush hC (v := (nI 8)) dX6_expected_47 rfl ?_
            refine x_iload_n hC 1 rfl dX6_expected_49 ?_
            refine x_isubE hC (z := (nI (8 - (S 4 p20)))) (pk_sub (by omega)) dX6_expected_50 ?_
            refine x_iload hC 0 rfl dX6_expected_51 ?_
            refine x_imulE hC (z := (nI ((8 - (S 4 p20)) * (S 4 p8)))) (pk_mul _ _) dX6_expected_53 ?_
            refine x_iaddE hC (z := (nI (((S 4 p20) * (8 - (S 4 p8))) + ((8 - (S 4 p20)) * (S 4 p8))))) (nI_add _ _) dX6_expected_54 ?_
            refine x_iaddE hC (z := (nI (s + (((S 4 p20) * (8 - (S 4 p8))) + ((8 - (S 4 p20)) * (S 4 p8)))))) (nI_add _ _) dX6_expected_55 ?_
            refine x_istore_n hC [(1, .int (nI (s + (((S 4 p20) * (8 - (S 4 p8))) + ((8 - (S 4 p20)) * (S 4 p8)))))), (4, .int (nI (S 4 p8))), (3, .int (nI (S 4 p20))), (0, .ref (b 0)), (2, .int (nI i))] rfl (lt_n hn rfl) dX6_expected_56 ?_
            refine x_iinc hC (z := 2) (v := (nI (i + 2))) 4 rfl (nI_add i 2) [(2, .int (nI (i + 2))), (1, .int (nI (s + (((S 4 p20) * (8 - (S 4 p8))) + ((8 - (S 4 p20)) * (S 4 p8)))))), (4, .int (nI (S 4 p8))), (3, .int (nI (S 4 p20))), (0, .ref (b 0))] rfl (lt_n hn rfl) dX6_expected_57 ?_
            refine x_goto hC 4 dX6_expected_60 rfl ?_
            refine x_lv [4, 1, 0] rfl ?_
            exact ih4 (s + (((S 4 p20) * (8 - (S 4 p8))) + ((8 - (S 4 p20)) * (S 4 p8)))) (i + 2) (by omega) (by omega) (by have := oc_mono (S 0 1) (show p8 + 1 ≤ S 0 0 from hn8); rw [oc_o ho8] at this; omega) (AT.step (x := 0) (p := 0) (exx_sk hn2) hn8 ho8 hc8 (by rw [exx_st (le := S 4) hn2 hi2 ho20 hc20 hn8 ho8 hc8, ← hat p20 (by omega) hc20]))
          · skip
            exact absurd (oc_mono (S 0 1) (show p8 + 1 ≤ S 0 0 from hn8)) (by rw [oc_o ho8]; omega)
        · skip
          exact absurd (oc_mono (S 0 1) (show p8 + 1 ≤ S 0 0 from hn8)) (by rw [oc_o ho8]; omega)
      · skip
        refine x_if_lt_T hC 63 dX6_expected_11 rfl (by decide) ?_
        refine x_iload_n hC 1 rfl dX6_expected_63 ?_
        exact x_iret hC hR dX6_expected_64 (sp_leafM (by rw [sp_expected, hat.fin (exx_sk hn2) hi2 hio (by omega)]) hI)
  exact L4 _ 0 0 (Nat.lt_succ_self _) rfl (Nat.zero_le _) (fun c hc he => (g_const (exx_sk hn2) c (Nat.zero_le _) hc he.symm))
