/-! planes -/
def mkP (τ : MM) (f : Nat → Int32) (p : Int32) (g v : Nat → Int32) : MM := msetc (msetc (mup (msetc τ 16 f) 0 6 p) 17 g) 18 v
theorem mkP_id (τ : MM) (p : Int32) : mup τ 0 6 p = mkP τ (τ.1 16) p (τ.1 17) (τ.1 18) := by
  refine Prod.ext ?_ rfl
  funext c
  show up τ.1 0 6 p c = if c = 18 then τ.1 18 else if c = 17 then τ.1 17 else up (setc τ.1 16 (τ.1 16)) 0 6 p c
  rw [setc_id]
  by_cases h1 : c = 18
  · subst h1; rfl
  · by_cases h2 : c = 17
    · subst h2; rfl
    · rw [if_neg h1, if_neg h2]
theorem MI.mkP {τ : MM} {S : SS} (h : MI τ S) (f : Nat → Int32) (p : Int32) (g v : Nat → Int32) : MI (mkP τ f p g v) S := ⟨h.n, h.mask, h.k, h.chips, h.ref, h.ch, h.we, h.le, h.rows, h.chip, h.pair, h.made⟩
def sy9 (t q : Nat) (z : Int) : Nat := if z ≤ sm t q then 1 else 0
theorem sy9_le (t q : Nat) (z : Int) : sy9 t q z ≤ 1 := by unfold sy9; split <;> omega
def pq9 (A : Nat → Nat) (t : Nat) (z : Int) (q : Nat) : Bool := decide (A q = 0 ∨ A q = (if z ≤ sm t q then 2 else 1))
theorem okp_pq (A : Nat → Nat) (t : Nat) (z : Int) : okp A t z = allN (pq9 A t z) 16 := rfl
theorem allN_up {p : Nat → Bool} {m n : Nat} (h : allN p m = false) (hn : m ≤ n) : allN p n = false := by
  cases hq : allN p n with
  | false => rfl
  | true => rw [allN_iff.mpr (fun i hi => allN_iff.mp hq i (by omega))] at h; cases h
theorem pq9_T {A : Nat → Nat} {t q : Nat} {z : Int} (h0 : 1 ≤ A q) (h : (sy9 t q z : Int) = (A q : Int) - 1) : pq9 A t z q = true := by
  unfold pq9 sy9 at *
  refine decide_eq_true (Or.inr ?_)
  split at h <;> rename_i e <;> simp only [e, if_true, if_false] <;> omega
theorem pq9_F {A : Nat → Nat} {t q : Nat} {z : Int} (h0 : 1 ≤ A q) (h : ¬ (sy9 t q z : Int) = (A q : Int) - 1) : pq9 A t z q = false := by
  unfold pq9 sy9 at *
  refine decide_eq_false (fun q => ?_)
  rcases q with q | q
  · omega
  · split at h <;> rename_i e <;> simp only [e, if_true, if_false] at q <;> omega
/-- how many of the first x, and of them how many say 1 -/
def cnx (A : Nat → Nat) (x : Nat) : Nat := sumN (fun y => if px9 A y then 1 else 0) x
def cno (A : Nat → Nat) (q x : Nat) : Nat := sumN (fun y => if px9 A y && decide (ce (y % 13) ≤ sm (y / 13) q) then 1 else 0) x
def plg (A : Nat → Nat) (x j : Nat) : Int := if j < 4 then wv (ff (px9 A) x / 13) j else ce (ff (px9 A) x % 13)
theorem sumN_grid (h : Nat → Nat → Nat) : ∀ t : Nat, sumN (fun y => h (y / 13) (y % 13)) (t * 13) = sumN (fun t => sumN (h t) 13) t
  | 0 => rfl
  | t + 1 => by
    have e : ∀ i, i < 13 → (fun i => (fun y => h (y / 13) (y % 13)) (t * 13 + i)) i = h t i := by
      intro i hi
      show h ((t * 13 + i) / 13) ((t * 13 + i) % 13) = h t i
      rw [show (t * 13 + i) / 13 = t by omega, show (t * 13 + i) % 13 = i by omega]
    rw [Nat.add_mul, Nat.one_mul, sumN_split, sumN_grid h t, sumN_congr e]
    rfl
theorem cnx_end (A : Nat → Nat) : cnx A 31213 = plc A := sumN_grid (fun t e => if okp A t (ce e) then 1 else 0) 2401
theorem cno_end (A : Nat → Nat) (q : Nat) : cno A q 31213 = plo A q := sumN_grid (fun t e => if okp A t (ce e) && decide (ce e ≤ sm t q) then 1 else 0) 2401
theorem cnx_le (A : Nat → Nat) (x : Nat) : cnx A x ≤ x := by
  have := sumN_le (f := fun y => if px9 A y then 1 else 0) (g := fun _ => 1) (m := x) (fun i _ => by show (if px9 A i then 1 else 0) ≤ 1; split <;> omega)
  rw [sumN_const] at this
  unfold cnx
  omega
theorem cnx_zero {A : Nat → Nat} {x : Nat} (h : cnx A x = 0) : ∀ y, y < x → px9 A y = false := fun y hy => by
  have := sumN_zero h y hy
  cases e : px9 A y with
  | false => rfl
  | true => rw [e] at this; simp at this
theorem cnx_pos {A : Nat → Nat} {x : Nat} (h : 0 < cnx A x) : ff (px9 A) x < x := by
  apply Classical.byContradiction
  intro q
  have e : ∀ y, y < x → px9 A y = false := fun y hy => by
    cases e : px9 A y with
    | false => rfl
    | true => exact absurd (ff_some hy e) q
  have : cnx A x = 0 := by
    unfold cnx
    rw [sumN_congr (g := fun _ => 0) (fun y hy => by rw [e y hy]; rfl), sumN_const, Nat.zero_mul]
  omega
/-- the model has seen the first x planes -/
def PS (A : Nat → Nat) (x : Nat) (f : Nat → Int32) (p : Nat) (g : Nat → Int32) : Prop := p = cnx A x ∧ (∀ q, q < 16 → g q = nI (cno A q x)) ∧ (0 < cnx A x → ∀ j, j < 5 → f j = zI (plg A x j))
theorem PS.skip {A : Nat → Nat} {x : Nat} {f g : Nat → Int32} {p : Nat} (h : PS A x f p g) (hp : px9 A x = false) : PS A (x + 1) f p g := by
  have e1 : cnx A (x + 1) = cnx A x := by show cnx A x + (if px9 A x then 1 else 0) = _; rw [hp]; rfl
  have e2 : ∀ q, cno A q (x + 1) = cno A q x := by intro q; show cno A q x + (if px9 A x && _ then 1 else 0) = _; rw [hp]; rfl
  refine ⟨by rw [e1]; exact h.1, fun q hq => by rw [e2]; exact h.2.1 q hq, fun hz j hj => ?_⟩
  rw [e1] at hz
  rw [h.2.2 hz j hj]
  unfold plg
  rw [ff_keep (cnx_pos hz) 1]
theorem PS.add {A : Nat → Nat} {t e : Nat} {f g f2 g2 : Nat → Int32} {p : Nat} (he : e < 13) (h : PS A (t * 13 + e) f p g) (hp : px9 A (t * 13 + e) = true) (hg : ∀ q, q < 16 → g2 q = nI (cno A q (t * 13 + e) + sy9 t q (ce e))) (hf : (p = 0 ∧ (∀ i, i < 4 → f2 i = zI (wv t i)) ∧ f2 4 = zI (ce e)) ∨ (p ≠ 0 ∧ f2 = f)) : PS A (t * 13 + e + 1) f2 (p + 1) g2 := by
  have d1 : (t * 13 + e) / 13 = t := by omega
  have d2 : (t * 13 + e) % 13 = e := by omega
  have e1 : cnx A (t * 13 + e + 1) = cnx A (t * 13 + e) + 1 := by show cnx A _ + (if px9 A _ then 1 else 0) = _; rw [hp]; rfl
  have e2 : ∀ q, cno A q (t * 13 + e + 1) = cno A q (t * 13 + e) + sy9 t q (ce e) := by
    intro q
    show cno A q _ + (if px9 A (t * 13 + e) && decide (ce ((t * 13 + e) % 13) ≤ sm ((t * 13 + e) / 13) q) then 1 else 0) = _
    rw [hp, d1, d2, Bool.true_and]
    unfold sy9
    simp
  have hp1 := h.1
  refine ⟨by rw [e1, h.1], fun q hq => by rw [e2]; exact hg q hq, fun hz j hj => ?_⟩
  unfold plg
  rcases hf with ⟨h1, h2, h3⟩ | ⟨h1, h2⟩
  · rw [ff_at (j := 0) (cnx_zero (by omega)) hp, d1, d2]
    by_cases q : j < 4
    · rw [if_pos q]; exact h2 j q
    · rw [if_neg q, show j = 4 by omega]; exact h3
  · have hz2 : 0 < cnx A (t * 13 + e) := by omega
    rw [ff_keep (cnx_pos hz2) 1, h2]
    exact h.2.2 hz2 j hj
def PF (u : MM) (A : Nat → Nat) : Prop := u.1 0 6 = nI (plc A) ∧ (∀ q, q < 16 → u.1 17 q = nI (plo A q)) ∧ (0 < plc A → ∀ i, i < 5 → u.1 16 i = zI (plf A i))
theorem PS.done {A : Nat → Nat} {f g : Nat → Int32} {p : Nat} (h : PS A 31213 f p g) (τ : MM) (v : Nat → Int32) : PF (mkP τ f (nI p) g v) A := by
  refine ⟨?_, fun q hq => ?_, fun hz i hi => ?_⟩
  · show nI p = _
    rw [h.1, cnx_end]
  · show g q = _
    rw [h.2.1 q hq, cno_end]
  · show f i = _
    rw [← cnx_end] at hz
    exact h.2.2 hz i hi
theorem wv_0 (t : Nat) : wv t 0 = ((t / 343 : Nat) : Int) - 3 := rfl

set_option maxHeartbeats 4000000 in
set_option maxRecDepth 100000 in
theorem c_X6_says {l : Launch} {D : va_G} {c : Nat → ClassId} {b : Nat → Nat} {τ : MM} {q t : Nat} {z : Int} (hw : ∀ i, i < 4 → τ.1 18 i = zI (wv t i)) (ht : t < 2401) (hq : q < 16) (hz : -6 ≤ z ∧ z ≤ 6) : KI l D (tyE c) (mw c b) yX6_says cX6_says 5 .int (rmL 1) [.ref (b 0), .int (nI q), .int (zI z)] τ (fun r u => r = nI (sy9 t q z) ∧ τ = u) := by
  refine x_enterI (by decide) (Nat.le_of_ble_eq_true rfl) (fun F hl hD hn hRm hC hR => ?_)
  subst hl hD
  change XW F 0 0 (mw c b τ) [(0, .ref (b 0)), (1, .int (nI q)), (2, .int (zI z))] 0 []
  change FC F cX6_says RX6 (tyE c) at hC
  have hsb := fun n => smx_b (w := wv t) (wv_b t ht) q n
  refine x_iconst hC (v := (nI 0)) dX6_says_0 rfl ?_
  refine x_istore_n hC [(3, .int (nI 0)), (0, .ref (b 0)), (1, .int (nI q)), (2, .int (zI z))] rfl (lt_n hn rfl) dX6_says_1 ?_
  refine x_iconst hC (v := (nI 0)) dX6_says_2 rfl ?_
  refine x_istore hC [(4, .int (nI 0)), (3, .int (nI 0)), (0, .ref (b 0)), (1, .int (nI q)), (2, .int (zI z))] rfl (lt_n hn rfl) dX6_says_3 ?_
  refine x_lv [2, 3, 4, 1, 0] rfl ?_
  have L5 : ∀ (N5 : Nat) (s : Int) (i : Nat), 4 - i < N5 → (i ≤ 4) → (s = smx (wv t) q i) → XW F 0 0 (mw c b τ) [(0, .ref (b 0)), (1, .int (nI q)), (2, .int (zI z)), (3, .int (zI s)), (4, .int (nI i))] 5 [] := by
    intro N5
    induction N5 with
    | zero => intro s i hN5 hi hs; exact absurd hN5 (by omega)
    | succ N5 ih5 =>
      intro s i hN5 hi hs
      have hsi := hsb i
      refine x_iload hC 4 rfl dX6_says_5 ?_
      refine x_iconst hC (v := (nI 4)) dX6_says_7 rfl ?_
      refine x_icmp_geN hC 48 dX6_says_8 rfl (by omega) (by decide) (fun h8 => ?_) (fun h8 => ?_)
      · -- 8 T
        refine x_iload_n hC 3 rfl dX6_says_48 ?_
        refine x_iload_n hC 2 rfl dX6_says_49 ?_
        refine x_icmp_ltZ hC (a := s) (b := z) 57 dX6_says_50 rfl (by omega) (by omega) (fun h50 => ?_) (fun h50 => ?_)
        · -- 50 T
          refine x_iconst hC (v := (nI 0)) dX6_says_57 rfl ?_
          exact x_iret hC hR dX6_says_58 (⟨by have e : s = sm t q := (by rw [hs, show i = 4 by omega]; rfl); rw [sy9, if_neg (by omega)], rfl⟩)
        · -- 50 F
          refine x_iconst hC (v := (nI 1)) dX6_says_53 rfl ?_
          refine x_goto hC 58 dX6_says_54 rfl ?_
          exact x_iret hC hR dX6_says_58 (⟨by have e : s = sm t q := (by rw [hs, show i = 4 by omega]; rfl); rw [sy9, if_pos (by omega)], rfl⟩)
      · -- 8 F
        refine x_iload_n hC 3 rfl dX6_says_11 ?_
        refine x_iload_n hC 1 rfl dX6_says_12 ?_
        refine x_iload hC 4 rfl dX6_says_13 ?_
        refine x_ishrE hC (z := (nI (q / 2 ^ i))) (nI_shr (by omega) (by omega)) dX6_says_15 ?_
        refine x_iconst hC (v := (nI 1)) dX6_says_16 rfl ?_
        refine x_iandE hC (z := (nI (bt q i))) (nI_and1 _) dX6_says_17 ?_
        refine x_iconst hC (v := (nI 1)) dX6_says_18 rfl ?_
        refine x_icmp_neN hC 32 dX6_says_19 rfl (by have := bt_lt q i; omega) (by decide) (fun h19 => ?_) (fun h19 => ?_)
        · -- 19 T
          refine x_aload_n hC 0 rfl dX6_says_32 ?_
          refine x_get hC fl_X6_67 dX6_says_33 0 rfl rfl ?_
          refine x_iload hC 4 rfl dX6_says_36 ?_
          refine x_iald hC 18 0 rfl rfl (y := (zI (wv t i))) (by omega) (by decide) (hw i (by omega)) dX6_says_38 ?_
          refine x_inegE hC (z := (zI (-(wv t i)))) (zI_neg (wv t i)) dX6_says_39 ?_
          refine x_iaddE hC (z := (zI (s + (-(wv t i))))) (zI_add s (-(wv t i))) dX6_says_40 ?_
          refine x_istore_n hC [(3, .int (zI (s + (-(wv t i))))), (0, .ref (b 0)), (1, .int (nI q)), (2, .int (zI z)), (4, .int (nI i))] rfl (lt_n hn rfl) dX6_says_41 ?_
          refine x_iinc hC (z := 1) (v := (nI (i + 1))) 4 rfl (nI_add i 1) [(4, .int (nI (i + 1))), (3, .int (zI (s + (-(wv t i))))), (0, .ref (b 0)), (1, .int (nI q)), (2, .int (zI z))] rfl (lt_n hn rfl) dX6_says_42 ?_
          refine x_goto hC 5 dX6_says_45 rfl ?_
          refine x_lv [2, 3, 4, 1, 0] rfl ?_
          exact ih5 (s + (-(wv t i))) (i + 1) (by omega) (by omega) (by rw [hs]; exact congrArg (fun y => smx (wv t) q i + y) (if_neg h19).symm)
        · -- 19 F
          refine x_aload_n hC 0 rfl dX6_says_22 ?_
          refine x_get hC fl_X6_67 dX6_says_23 0 rfl rfl ?_
          refine x_iload hC 4 rfl dX6_says_26 ?_
          refine x_iald hC 18 0 rfl rfl (y := (zI (wv t i))) (by omega) (by decide) (hw i (by omega)) dX6_says_28 ?_
          refine x_goto hC 40 dX6_says_29 rfl ?_
          refine x_iaddE hC (z := (zI (s + (wv t i)))) (zI_add s (wv t i)) dX6_says_40 ?_
          refine x_istore_n hC [(3, .int (zI (s + (wv t i)))), (0, .ref (b 0)), (1, .int (nI q)), (2, .int (zI z)), (4, .int (nI i))] rfl (lt_n hn rfl) dX6_says_41 ?_
          refine x_iinc hC (z := 1) (v := (nI (i + 1))) 4 rfl (nI_add i 1) [(4, .int (nI (i + 1))), (3, .int (zI (s + (wv t i)))), (0, .ref (b 0)), (1, .int (nI q)), (2, .int (zI z))] rfl (lt_n hn rfl) dX6_says_42 ?_
          refine x_goto hC 5 dX6_says_45 rfl ?_
          refine x_lv [2, 3, 4, 1, 0] rfl ?_
          exact ih5 (s + (wv t i)) (i + 1) (by omega) (by omega) (by rw [hs]; exact congrArg (fun y => smx (wv t) q i + y) (if_pos h19).symm)
  exact L5 _ 0 0 (Nat.lt_succ_self _) (by omega) rfl
set_option maxHeartbeats 4000000 in
set_option maxRecDepth 100000 in
theorem c_X6_isPlane {l : Launch} {D : va_G} {c : Nat → ClassId} {b : Nat → Nat} {τ : MM} {t : Nat} {z : Int} {A : Nat → Nat} (hw : ∀ i, i < 4 → τ.1 18 i = zI (wv t i)) (ht : t < 2401) (hz : -6 ≤ z ∧ z ≤ 6) (hA : ∀ q, q < 16 → τ.1 9 q = zI ((A q : Int) - 1)) (hb : ∀ q, q < 16 → A q ≤ 2) : KI l D (tyE c) (mw c b) yX6_isPlane cX6_isPlane 4 .boolean (rmL 2) [.ref (b 0), .int (zI z)] τ (fun r u => r = bz (okp A t z) ∧ τ = u) := by
  refine x_enterI (by decide) (Nat.le_of_ble_eq_true rfl) (fun F hl hD hn hRm hC hR => ?_)
  subst hl hD
  change XW F 0 0 (mw c b τ) [(0, .ref (b 0)), (1, .int (zI z))] 0 []
  change FC F cX6_isPlane RX6 (tyE c) at hC
  refine x_iconst hC (v := (nI 1)) dX6_isPlane_0 rfl ?_
  refine x_istore_n hC [(2, .int (nI 1)), (0, .ref (b 0)), (1, .int (zI z))] rfl (lt_n hn rfl) dX6_isPlane_1 ?_
  refine x_iconst hC (v := (nI 0)) dX6_isPlane_2 rfl ?_
  refine x_istore_n hC [(3, .int (nI 0)), (2, .int (nI 1)), (0, .ref (b 0)), (1, .int (zI z))] rfl (lt_n hn rfl) dX6_isPlane_3 ?_
  refine x_lv [2, 3, 1, 0] rfl ?_
  have L4 : ∀ (N4 : Nat) (is : Bool) (i : Nat), 16 - i < N4 → (i ≤ 16) → (is = allN (pq9 A t z) i) → XW F 0 0 (mw c b τ) [(0, .ref (b 0)), (1, .int (zI z)), (2, .int (bz is)), (3, .int (nI i))] 4 [] := by
    intro N4
    induction N4 with
    | zero => intro is i hN4 hi his; exact absurd hN4 (by omega)
    | succ N4 ih4 =>
      intro is i hN4 hi his
      refine x_iload_n hC 3 rfl dX6_isPlane_4 ?_
      refine x_bipush hC (v := (nI 16)) dX6_isPlane_5 rfl ?_
      refine x_icmp_geN hC 50 dX6_isPlane_7 rfl (by omega) (by decide) (fun h7 => ?_) (fun h7 => ?_)
      · -- 7 T
        refine x_iload_n hC 2 rfl dX6_isPlane_50 ?_
        exact x_zret hC hR dX6_isPlane_51 (bz_n _) (⟨by rw [okp_pq, his, show i = 16 by omega], rfl⟩)
      · -- 7 F
        refine x_iload_n hC 2 rfl dX6_isPlane_10 ?_
        refine x_if_eqB hC 50 dX6_isPlane_11 rfl (fun h11 => ?_) (fun h11 => ?_)
        · -- 11 T
          refine x_iload_n hC 2 rfl dX6_isPlane_50 ?_
          exact x_zret hC hR dX6_isPlane_51 (bz_n _) (⟨by rw [okp_pq, allN_up (his.symm.trans h11) (by omega), h11], rfl⟩)
        · -- 11 F
          have hbi := hb i (by omega)
          refine x_aload_n hC 0 rfl dX6_isPlane_14 ?_
          refine x_get hC fl_X6_34 dX6_isPlane_15 0 rfl rfl ?_
          refine x_iload_n hC 3 rfl dX6_isPlane_18 ?_
          refine x_iald hC 9 0 rfl rfl (y := (zI ((A i : Int) - 1))) (by omega) (by decide) (hA i (by omega)) dX6_isPlane_19 ?_
          refine x_if_ltZ hC (a := ((A i : Int) - 1)) 38 dX6_isPlane_20 rfl (by omega) (fun h20 => ?_) (fun h20 => ?_)
          · -- 20 T
            refine x_iconst hC (v := (nI 1)) dX6_isPlane_38 rfl ?_
            refine x_goto hC 43 dX6_isPlane_39 rfl ?_
            refine x_istore_n hC [(2, .int (nI 1)), (0, .ref (b 0)), (1, .int (zI z)), (3, .int (nI i))] rfl (lt_n hn rfl) dX6_isPlane_43 ?_
            refine x_iinc hC (z := 1) (v := (nI (i + 1))) 3 rfl (nI_add i 1) [(3, .int (nI (i + 1))), (2, .int (nI 1)), (0, .ref (b 0)), (1, .int (zI z))] rfl (lt_n hn rfl) dX6_isPlane_44 ?_
            refine x_goto hC 4 dX6_isPlane_47 rfl ?_
            refine x_lv [2, 3, 1, 0] rfl ?_
            exact ih4 true (i + 1) (by omega) (by omega) (by rw [show allN (pq9 A t z) (i + 1) = (allN (pq9 A t z) i && pq9 A t z i) from rfl, ← his, h11, Bool.true_and]; exact (decide_eq_true (Or.inl (by omega))).symm)
          · -- 20 F
            refine x_aload_n hC 0 rfl dX6_isPlane_23 ?_
            refine x_iload_n hC 3 rfl dX6_isPlane_24 ?_
            refine x_iload_n hC 1 rfl dX6_isPlane_25 ?_
            refine x_callVI hC cw_X6_175 (c_X6_says (q := i) (z := z) (t := t) (by first | assumption | omega) (by first | assumption | omega) (by first | assumption | omega) (by first | assumption | omega)) dX6_isPlane_26 [] rfl (Nat.le_of_ble_eq_true rfl) rfl (rm_ok hRm (by decide) (by decide)) 6 0 rfl rfl (fun r26 m26 hp26 => ?_)
            obtain ⟨rfl, rfl⟩ := hp26
            have hsl := sy9_le t i z
            refine x_aload_n hC 0 rfl dX6_isPlane_29 ?_
            refine x_get hC fl_X6_34 dX6_isPlane_30 0 rfl rfl ?_
            refine x_iload_n hC 3 rfl dX6_isPlane_33 ?_
            refine x_iald hC 9 0 rfl rfl (y := (zI ((A i : Int) - 1))) (by omega) (by decide) (hA i (by omega)) dX6_isPlane_34 ?_
            refine x_icmp_neZ hC (a := (((sy9 t i z) : Nat) : Int)) (b := ((A i : Int) - 1)) 42 dX6_isPlane_35 rfl (by omega) (by omega) (fun h35 => ?_) (fun h35 => ?_)
            · -- 35 T
              refine x_iconst hC (v := (nI 0)) dX6_isPlane_42 rfl ?_
              refine x_istore_n hC [(2, .int (nI 0)), (0, .ref (b 0)), (1, .int (zI z)), (3, .int (nI i))] rfl (lt_n hn rfl) dX6_isPlane_43 ?_
              refine x_iinc hC (z := 1) (v := (nI (i + 1))) 3 rfl (nI_add i 1) [(3, .int (nI (i + 1))), (2, .int (nI 0)), (0, .ref (b 0)), (1, .int (zI z))] rfl (lt_n hn rfl) dX6_isPlane_44 ?_
              refine x_goto hC 4 dX6_isPlane_47 rfl ?_
              refine x_lv [2, 3, 1, 0] rfl ?_
              exact ih4 false (i + 1) (by omega) (by omega) (by rw [show allN (pq9 A t z) (i + 1) = (allN (pq9 A t z) i && pq9 A t z i) from rfl, ← his, h11, Bool.true_and]; exact (pq9_F (by omega) h35).symm)
            · -- 35 F
              refine x_iconst hC (v := (nI 1)) dX6_isPlane_38 rfl ?_
              refine x_goto hC 43 dX6_isPlane_39 rfl ?_
              refine x_istore_n hC [(2, .int (nI 1)), (0, .ref (b 0)), (1, .int (zI z)), (3, .int (nI i))] rfl (lt_n hn rfl) dX6_isPlane_43 ?_
              refine x_iinc hC (z := 1) (v := (nI (i + 1))) 3 rfl (nI_add i 1) [(3, .int (nI (i + 1))), (2, .int (nI 1)), (0, .ref (b 0)), (1, .int (zI z))] rfl (lt_n hn rfl) dX6_isPlane_44 ?_
              refine x_goto hC 4 dX6_isPlane_47 rfl ?_
              refine x_lv [2, 3, 1, 0] rfl ?_
              exact ih4 true (i + 1) (by omega) (by omega) (by rw [show allN (pq9 A t z) (i + 1) = (allN (pq9 A t z) i && pq9 A t z i) from rfl, ← his, h11, Bool.true_and]; exact (pq9_T (by omega) h35).symm)
  exact L4 _ true 0 (Nat.lt_succ_self _) (by omega) rfl
set_option maxHeartbeats 4000000 in
set_option maxRecDepth 100000 in
theorem c_X6_adds {l : Launch} {D : va_G} {c : Nat → ClassId} {b : Nat → Nat} {τ : MM} {t : Nat} {z : Int} {f g v : Nat → Int32} {P : Nat} {O : Nat → Nat} (hw : ∀ i, i < 4 → v i = zI (wv t i)) (ht : t < 2401) (hz : -6 ≤ z ∧ z ≤ 6) (hP : P < 2147483647) (hg : ∀ q, q < 16 → g q = nI (O q)) : KV l D (tyE c) (mw c b) yX6_adds cX6_adds 3 (rmL 2) [.ref (b 0), .int (zI z)] (mkP τ f (nI P) g v) (fun u => ∃ f2 g2, u = mkP τ f2 (nI (P + 1)) g2 v ∧ (∀ q, q < 16 → g2 q = nI (O q + sy9 t q z)) ∧ ((P = 0 ∧ (∀ i, i < 4 → f2 i = zI (wv t i)) ∧ f2 4 = zI z) ∨ (P ≠ 0 ∧ f2 = f))) := by
  refine x_enterV (by decide) (Nat.le_of_ble_eq_true rfl) (fun F hl hD hn hRm hC hR => ?_)
  subst hl hD
  change XW F 0 0 (mw c b (mkP τ f (nI P) g v)) [(0, .ref (b 0)), (1, .int (zI z))] 0 []
  change FC F cX6_adds RX6 (tyE c) at hC
  refine x_aload_n hC 0 rfl dX6_adds_0 ?_
  refine x_get hC fl_X6_166 dX6_adds_1 0 rfl (v := .int (nI P)) rfl ?_
  refine x_if_neN hC 39 dX6_adds_4 rfl (by omega) (fun h4 => ?_) (fun h4 => ?_)
  · -- 4 T
    refine x_aload_n hC 0 rfl dX6_adds_39 ?_
    refine x_dup hC rfl dX6_adds_40 ?_
    refine x_get hC fl_X6_166 dX6_adds_41 0 rfl (v := .int (nI P)) rfl ?_
    refine x_iconst hC (v := (nI 1)) dX6_adds_44 rfl ?_
    refine x_iaddE hC (z := (nI (P + 1))) (nI_add _ _) dX6_adds_45 ?_
    refine x_put hC fp_X6_166 dX6_adds_46 0 rfl rfl rfl (Nat.le_of_ble_eq_true rfl) (mw c b (mkP τ f (nI (P + 1)) g v)) rfl ?_
    refine x_iconst hC (v := (nI 0)) dX6_adds_49 rfl ?_
    refine x_istore_n hC [(2, .int (nI 0)), (0, .ref (b 0)), (1, .int (zI z))] rfl (lt_n hn rfl) dX6_adds_50 ?_
    refine x_lv [1, 2, 0] rfl ?_
    have L51 : ∀ (N51 : Nat) (f2 : Nat → Int32) (g1 : Nat → Int32) (i : Nat), 16 - i < N51 → (i ≤ 16) → (∀ q, q < i → g1 q = nI (O q + sy9 t q z)) → (∀ q, i ≤ q → g1 q = g q) → ((P = 0 ∧ (∀ i, i < 4 → f2 i = zI (wv t i)) ∧ f2 4 = zI z) ∨ (P ≠ 0 ∧ f2 = f)) → XW F 0 0 (mw c b (mkP τ f2 (nI (P + 1)) g1 v)) [(0, .ref (b 0)), (1, .int (zI z)), (2, .int (nI i))] 51 [] := by
      intro N51
      induction N51 with
      | zero => intro f2 g1 i hN51 hi hg1 hg2 hff; exact absurd hN51 (by omega)
      | succ N51 ih51 =>
        intro f2 g1 i hN51 hi hg1 hg2 hff
        refine x_iload_n hC 2 rfl dX6_adds_51 ?_
        refine x_bipush hC (v := (nI 16)) dX6_adds_52 rfl ?_
        refine x_icmp_geN hC 78 dX6_adds_54 rfl (by omega) (by decide) (fun h54 => ?_) (fun h54 => ?_)
        · -- 54 T
          exact x_vret hC hR dX6_adds_78 (⟨f2, g1, rfl, fun q hq => hg1 q (by omega), hff⟩)
        · -- 54 F
          refine x_aload_n hC 0 rfl dX6_adds_57 ?_
          refine x_get hC fl_X6_64 dX6_adds_58 0 rfl rfl ?_
          refine x_iload_n hC 2 rfl dX6_adds_61 ?_
          refine x_dup2 hC rfl rfl dX6_adds_62 ?_
          refine x_iald hC 17 0 rfl rfl (y := (nI (O i))) (by omega) (by decide) ((hg2 i (Nat.le_refl _)).trans (hg i (by omega))) dX6_adds_63 ?_
          refine x_aload_n hC 0 rfl dX6_adds_64 ?_
          refine x_iload_n hC 2 rfl dX6_adds_65 ?_
          refine x_iload_n hC 1 rfl dX6_adds_66 ?_
          refine x_callVI hC cw_X6_175 (c_X6_says (q := i) (z := z) (t := t) hw ht (by omega) hz) dX6_adds_67 [.int (nI (O i)), .int (nI i), .ref (b 17)] rfl (Nat.le_of_ble_eq_true rfl) rfl (rm_ok hRm (by decide) (by decide)) 6 0 rfl rfl (fun r67 m67 hp67 => ?_)
          obtain ⟨rfl, rfl⟩ := hp67
          refine x_iaddE hC (z := (nI ((O i) + (sy9 t i z)))) (nI_add _ _) dX6_adds_70 ?_
          refine x_iast hC 17 0 rfl rfl (by omega) (by decide) (mw c b (mkP τ f2 (nI (P + 1)) (upd g1 i (nI ((O i) + (sy9 t i z)))) v)) rfl dX6_adds_71 ?_
          refine x_iinc hC (z := 1) (v := (nI (i + 1))) 2 rfl (nI_add i 1) [(2, .int (nI (i + 1))), (0, .ref (b 0)), (1, .int (zI z))] rfl (lt_n hn rfl) dX6_adds_72 ?_
          refine x_goto hC 51 dX6_adds_75 rfl ?_
          refine x_lv [1, 2, 0] rfl ?_
          exact ih51 f2 (upd g1 i (nI ((O i) + (sy9 t i z)))) (i + 1) (by omega) (by omega) (upd_all (Q := fun q x => x = nI (O q + sy9 t q z)) hg1 rfl) (fun q hq => by rw [upd_n (by omega)]; exact hg2 q (by omega)) hff
    exact L51 _ f g 0 (Nat.lt_succ_self _) (by omega) (fun q h => absurd h (by omega)) (fun _ _ => rfl) (by first | exact Or.inl ⟨h4, fun j hj => (upd_n (by omega)).trans (hf1 j hj), upd_s _ _ _⟩ | exact Or.inr ⟨h4, rfl⟩)
  · -- 4 F
    refine x_iconst hC (v := (nI 0)) dX6_adds_7 rfl ?_
    refine x_istore_n hC [(2, .int (nI 0)), (0, .ref (b 0)), (1, .int (zI z))] rfl (lt_n hn rfl) dX6_adds_8 ?_
    refine x_lv [1, 2, 0] rfl ?_
    have L9 : ∀ (N9 : Nat) (f1 : Nat → Int32) (i : Nat), 4 - i < N9 → (i ≤ 4) → (∀ j, j < i → f1 j = zI (wv t j)) → XW F 0 0 (mw c b (mkP τ f1 (nI P) g v)) [(0, .ref (b 0)), (1, .int (zI z)), (2, .int (nI i))] 9 [] := by
      intro N9
      induction N9 with
      | zero => intro f1 i hN9 hi hf0; exact absurd hN9 (by omega)
      | succ N9 ih9 =>
        intro f1 i hN9 hi hf0
        refine x_iload_n hC 2 rfl dX6_adds_9 ?_
        refine x_iconst hC (v := (nI 4)) dX6_adds_10 rfl ?_
        refine x_icmp_geN hC 32 dX6_adds_11 rfl (by omega) (by decide) (fun h11 => ?_) (fun h11 => ?_)
        · -- 11 T
          have hf1 : ∀ j, j < 4 → f1 j = zI (wv t j) := fun j hj => hf0 j (by omega)
          refine x_aload_n hC 0 rfl dX6_adds_32 ?_
          refine x_get hC fl_X6_61 dX6_adds_33 0 rfl rfl ?_
          refine x_iconst hC (v := (nI 4)) dX6_adds_36 rfl ?_
          refine x_iload_n hC 1 rfl dX6_adds_37 ?_
          refine x_iast hC 16 0 rfl rfl (by decide) (by decide) (mw c b (mkP τ (upd f1 4 (zI z)) (nI P) g v)) rfl dX6_adds_38 ?_
          refine x_aload_n hC 0 rfl dX6_adds_39 ?_
          refine x_dup hC rfl dX6_adds_40 ?_
          refine x_get hC fl_X6_166 dX6_adds_41 0 rfl (v := .int (nI P)) rfl ?_
          refine x_iconst hC (v := (nI 1)) dX6_adds_44 rfl ?_
          refine x_iaddE hC (z := (nI (P + 1))) (nI_add _ _) dX6_adds_45 ?_
          refine x_put hC fp_X6_166 dX6_adds_46 0 rfl rfl rfl (Nat.le_of_ble_eq_true rfl) (mw c b (mkP τ (upd f1 4 (zI z)) (nI (P + 1)) g v)) rfl ?_
          refine x_iconst hC (v := (nI 0)) dX6_adds_49 rfl ?_
          refine x_istore_n hC [(2, .int (nI 0)), (0, .ref (b 0)), (1, .int (zI z))] rfl (lt_n hn rfl) dX6_adds_50 ?_
          refine x_lv [1, 2, 0] rfl ?_
          have L51 : ∀ (N51 : Nat) (f2 : Nat → Int32) (g1 : Nat → Int32) (i : Nat), 16 - i < N51 → (i ≤ 16) → (∀ q, q < i → g1 q = nI (O q + sy9 t q z)) → (∀ q, i ≤ q → g1 q = g q) → ((P = 0 ∧ (∀ i, i < 4 → f2 i = zI (wv t i)) ∧ f2 4 = zI z) ∨ (P ≠ 0 ∧ f2 = f)) → XW F 0 0 (mw c b (mkP τ f2 (nI (P + 1)) g1 v)) [(0, .ref (b 0)), (1, .int (zI z)), (2, .int (nI i))] 51 [] := by
            intro N51
            induction N51 with
            | zero => intro f2 g1 i hN51 hi hg1 hg2 hff; exact absurd hN51 (by omega)
            | succ N51 ih51 =>
              intro f2 g1 i hN51 hi hg1 hg2 hff
              refine x_iload_n hC 2 rfl dX6_adds_51 ?_
              refine x_bipush hC (v := (nI 16)) dX6_adds_52 rfl ?_
              refine x_icmp_geN hC 78 dX6_adds_54 rfl (by omega) (by decide) (fun h54 => ?_) (fun h54 => ?_)
              · -- 54 T
                exact x_vret hC hR dX6_adds_78 (⟨f2, g1, rfl, fun q hq => hg1 q (by omega), hff⟩)
              · -- 54 F
                refine x_aload_n hC 0 rfl dX6_adds_57 ?_
                refine x_get hC fl_X6_64 dX6_adds_58 0 rfl rfl ?_
                refine x_iload_n hC 2 rfl dX6_adds_61 ?_
                refine x_dup2 hC rfl rfl dX6_adds_62 ?_
                refine x_iald hC 17 0 rfl rfl (y := (nI (O i))) (by omega) (by decide) ((hg2 i (Nat.le_refl _)).trans (hg i (by omega))) dX6_adds_63 ?_
                refine x_aload_n hC 0 rfl dX6_adds_64 ?_
                refine x_iload_n hC 2 rfl dX6_adds_65 ?_
                refine x_iload_n hC 1 rfl dX6_adds_66 ?_
                refine x_callVI hC cw_X6_175 (c_X6_says (q := i) (z := z) (t := t) hw ht (by omega) hz) dX6_adds_67 [.int (nI (O i)), .int (nI i), .ref (b 17)] rfl (Nat.le_of_ble_eq_true rfl) rfl (rm_ok hRm (by decide) (by decide)) 6 0 rfl rfl (fun r67 m67 hp67 => ?_)
                obtain ⟨rfl, rfl⟩ := hp67
                refine x_iaddE hC (z := (nI ((O i) + (sy9 t i z)))) (nI_add _ _) dX6_adds_70 ?_
                refine x_iast hC 17 0 rfl rfl (by omega) (by decide) (mw c b (mkP τ f2 (nI (P + 1)) (upd g1 i (nI ((O i) + (sy9 t i z)))) v)) rfl dX6_adds_71 ?_
                refine x_iinc hC (z := 1) (v := (nI (i + 1))) 2 rfl (nI_add i 1) [(2, .int (nI (i + 1))), (0, .ref (b 0)), (1, .int (zI z))] rfl (lt_n hn rfl) dX6_adds_72 ?_
                refine x_goto hC 51 dX6_adds_75 rfl ?_
                refine x_lv [1, 2, 0] rfl ?_
                exact ih51 f2 (upd g1 i (nI ((O i) + (sy9 t i z)))) (i + 1) (by omega) (by omega) (upd_all (Q := fun q x => x = nI (O q + sy9 t q z)) hg1 rfl) (fun q hq => by rw [upd_n (by omega)]; exact hg2 q (by omega)) hff
          exact L51 _ (upd f1 4 (zI z)) g 0 (Nat.lt_succ_self _) (by omega) (fun q h => absurd h (by omega)) (fun _ _ => rfl) (by first | exact Or.inl ⟨h4, fun j hj => (upd_n (by omega)).trans (hf1 j hj), upd_s _ _ _⟩ | exact Or.inr ⟨h4, rfl⟩)
        · -- 11 F
          refine x_aload_n hC 0 rfl dX6_adds_14 ?_
          refine x_get hC fl_X6_61 dX6_adds_15 0 rfl rfl ?_
          refine x_iload_n hC 2 rfl dX6_adds_18 ?_
          refine x_aload_n hC 0 rfl dX6_adds_19 ?_
          refine x_get hC fl_X6_67 dX6_adds_20 0 rfl rfl ?_
          refine x_iload_n hC 2 rfl dX6_adds_23 ?_
          refine x_iald hC 18 0 rfl rfl (y := (zI (wv t i))) (by omega) (by decide) (hw i (by omega)) dX6_adds_24 ?_
          refine x_iast hC 16 0 rfl rfl (by omega) (by decide) (mw c b (mkP τ (upd f1 i (zI (wv t i))) (nI P) g v)) rfl dX6_adds_25 ?_
          refine x_iinc hC (z := 1) (v := (nI (i + 1))) 2 rfl (nI_add i 1) [(2, .int (nI (i + 1))), (0, .ref (b 0)), (1, .int (zI z))] rfl (lt_n hn rfl) dX6_adds_26 ?_
          refine x_goto hC 9 dX6_adds_29 rfl ?_
          refine x_lv [1, 2, 0] rfl ?_
          exact ih9 (upd f1 i (zI (wv t i))) (i + 1) (by omega) (by omega) (upd_all (Q := fun j x => x = zI (wv t j)) hf0 rfl)
    exact L9 _ f 0 (Nat.lt_succ_self _) (by omega) (fun j h => absurd h (by omega))
set_option maxHeartbeats 4000000 in
set_option maxRecDepth 100000 in
theorem c_X6_findPlanes {l : Launch} {D : va_G} {c : Nat → ClassId} {b : Nat → Nat} {τ : MM} {S : SS} (hI : MI τ S) (hV : SV S)  : KV l D (tyE c) (mw c b) yX6_findPlanes cX6_findPlanes 3 (rmL 3) [.ref (b 0)] τ (fun u => MI u S ∧ PF u (S 10)) := by
  refine x_enterV (by decide) (Nat.le_of_ble_eq_true rfl) (fun F hl hD hn hRm hC hR => ?_)
  subst hl hD
  change XW F 0 0 (mw c b τ) [(0, .ref (b 0))] 0 []
  change FC F cX6_findPlanes RX6 (tyE c) at hC
  have hn1 := hV.n1
  have hn2 := hV.n2
  have hpn := hV.pn
  have hk6 := hV.k
  have hpk := hV.pk
  have hpk1 := SV.pk1 S
  have hch8 := hV.chips
  have hmk := hV.mask
  have hmk31 : S 0 1 < 2 ^ 31 := by omega
  refine x_aload_n hC 0 rfl dX6_findPlanes_0 ?_
  refine x_iconst hC (v := (nI 0)) dX6_findPlanes_1 rfl ?_
  refine x_put hC fp_X6_166 dX6_findPlanes_2 0 rfl rfl rfl (Nat.le_of_ble_eq_true rfl) (mw c b (mup τ 0 6 (nI 0))) rfl ?_
  rw [mkP_id τ (nI 0)]
  change XW F 0 0 (mw c b (mkP τ (τ.1 16) (nI 0) (τ.1 17) (τ.1 18))) [(0, .ref (b 0))] 5 []
  refine x_iconst hC (v := (nI 0)) dX6_findPlanes_5 rfl ?_
  refine x_istore_n hC [(1, .int (nI 0)), (0, .ref (b 0))] rfl (lt_n hn rfl) dX6_findPlanes_6 ?_
  refine x_lv [1, 0] rfl ?_
  have L7 : ∀ (N7 : Nat) (g : Nat → Int32) (i : Nat), 16 - i < N7 → (i ≤ 16) → (∀ j, j < i → g j = nI 0) → XW F 0 0 (mw c b (mkP τ (τ.1 16) (nI 0) g (τ.1 18))) [(0, .ref (b 0)), (1, .int (nI i))] 7 [] := by
    intro N7
    induction N7 with
    | zero => intro g i hN7 hi hg; exact absurd hN7 (by omega)
    | succ N7 ih7 =>
      intro g i hN7 hi hg
      refine x_iload_n hC 1 rfl dX6_findPlanes_7 ?_
      refine x_bipush hC (v := (nI 16)) dX6_findPlanes_8 rfl ?_
      refine x_icmp_geN hC 26 dX6_findPlanes_10 rfl (by omega) (by decide) (fun h10 => ?_) (fun h10 => ?_)
      · -- 10 T
        refine x_iconst hC (v := (nI 0)) dX6_findPlanes_26 rfl ?_
        refine x_istore_n hC [(1, .int (nI 0)), (0, .ref (b 0))] rfl (lt_n hn rfl) dX6_findPlanes_27 ?_
        refine x_lv [1, 0] rfl ?_
        have L28 : ∀ (N28 : Nat) (f : Nat → Int32) (p : Nat) (g : Nat → Int32) (v : Nat → Int32) (t : Nat), 2401 - t < N28 → (t ≤ 2401) → (PS (S 10) (t * 13) f p g) → XW F 0 0 (mw c b (mkP τ f (nI p) g v)) [(0, .ref (b 0)), (1, .int (nI t))] 28 [] := by
          intro N28
          induction N28 with
          | zero => intro f p g v t hN28 ht hps0; exact absurd hN28 (by omega)
          | succ N28 ih28 =>
            intro f p g v t hN28 ht hps0
            refine x_iload_n hC 1 rfl dX6_findPlanes_28 ?_
            refine x_sipush hC (v := (nI 2401)) dX6_findPlanes_29 rfl ?_
            refine x_icmp_geN hC 124 dX6_findPlanes_32 rfl (by omega) (by decide) (fun h32 => ?_) (fun h32 => ?_)
            · -- 32 T
              exact x_vret hC hR dX6_findPlanes_124 (⟨hI.mkP _ _ _ _, by rw [show t = 2401 by omega] at hps0; exact hps0.done _ _⟩)
            · -- 32 F
              refine x_aload_n hC 0 rfl dX6_findPlanes_35 ?_
              refine x_get hC fl_X6_67 dX6_findPlanes_36 0 rfl rfl ?_
              refine x_iconst hC (v := (nI 0)) dX6_findPlanes_39 rfl ?_
              refine x_iload_n hC 1 rfl dX6_findPlanes_40 ?_
              refine x_sipush hC (v := (nI 343)) dX6_findPlanes_41 rfl ?_
              refine x_idivE hC (z := (nI (t / 343))) (by decide) (pk_div (by omega) (by decide) (by decide)) dX6_findPlanes_44 ?_
              refine x_iconst hC (v := (nI 3)) dX6_findPlanes_45 rfl ?_
              refine x_isubE hC (z := (zI ((((t / 343) : Nat) : Int) - 3))) (zI_sub (((t / 343) : Nat) : Int) 3) dX6_findPlanes_46 ?_
              refine x_iast hC 18 0 rfl rfl (by decide) (by decide) (mw c b (mkP τ f (nI p) g (upd v 0 (zI ((((t / 343) : Nat) : Int) - 3))))) rfl dX6_findPlanes_47 ?_
              refine x_aload_n hC 0 rfl dX6_findPlanes_48 ?_
              refine x_get hC fl_X6_67 dX6_findPlanes_49 0 rfl rfl ?_
              refine x_iconst hC (v := (nI 1)) dX6_findPlanes_52 rfl ?_
              refine x_iload_n hC 1 rfl dX6_findPlanes_53 ?_
              refine x_bipush hC (v := (nI 49)) dX6_findPlanes_54 rfl ?_
              refine x_idivE hC (z := (nI (t / 49))) (by decide) (pk_div (by omega) (by decide) (by decide)) dX6_findPlanes_56 ?_
              refine x_bipush hC (v := (nI 7)) dX6_findPlanes_57 rfl ?_
              refine x_iremE hC (z := (nI ((t / 49) % 7))) (by decide) (pk_rem (by omega) (by decide) (by decide)) dX6_findPlanes_59 ?_
              refine x_iconst hC (v := (nI 3)) dX6_findPlanes_60 rfl ?_
              refine x_isubE hC (z := (zI (((((t / 49) % 7) : Nat) : Int) - 3))) (zI_sub ((((t / 49) % 7) : Nat) : Int) 3) dX6_findPlanes_61 ?_
              refine x_iast hC 18 0 rfl rfl (by decide) (by decide) (mw c b (mkP τ f (nI p) g (upd (upd v 0 (zI ((((t / 343) : Nat) : Int) - 3))) 1 (zI (((((t / 49) % 7) : Nat) : Int) - 3))))) rfl dX6_findPlanes_62 ?_
              refine x_aload_n hC 0 rfl dX6_findPlanes_63 ?_
              refine x_get hC fl_X6_67 dX6_findPlanes_64 0 rfl rfl ?_
              refine x_iconst hC (v := (nI 2)) dX6_findPlanes_67 rfl ?_
              refine x_iload_n hC 1 rfl dX6_findPlanes_68 ?_
              refine x_bipush hC (v := (nI 7)) dX6_findPlanes_69 rfl ?_
              refine x_idivE hC (z := (nI (t / 7))) (by decide) (pk_div (by omega) (by decide) (by decide)) dX6_findPlanes_71 ?_
              refine x_bipush hC (v := (nI 7)) dX6_findPlanes_72 rfl ?_
              refine x_iremE hC (z := (nI ((t / 7) % 7))) (by decide) (pk_rem (by omega) (by decide) (by decide)) dX6_findPlanes_74 ?_
              refine x_iconst hC (v := (nI 3)) dX6_findPlanes_75 rfl ?_
              refine x_isubE hC (z := (zI (((((t / 7) % 7) : Nat) : Int) - 3))) (zI_sub ((((t / 7) % 7) : Nat) : Int) 3) dX6_findPlanes_76 ?_
              refine x_iast hC 18 0 rfl rfl (by decide) (by decide) (mw c b (mkP τ f (nI p) g (upd (upd (upd v 0 (zI ((((t / 343) : Nat) : Int) - 3))) 1 (zI (((((t / 49) % 7) : Nat) : Int) - 3))) 2 (zI (((((t / 7) % 7) : Nat) : Int) - 3))))) rfl dX6_findPlanes_77 ?_
              refine x_aload_n hC 0 rfl dX6_findPlanes_78 ?_
              refine x_get hC fl_X6_67 dX6_findPlanes_79 0 rfl rfl ?_
              refine x_iconst hC (v := (nI 3)) dX6_findPlanes_82 rfl ?_
              refine x_iload_n hC 1 rfl dX6_findPlanes_83 ?_
              refine x_bipush hC (v := (nI 7)) dX6_findPlanes_84 rfl ?_
              refine x_iremE hC (z := (nI (t % 7))) (by decide) (pk_rem (by omega) (by decide) (by decide)) dX6_findPlanes_86 ?_
              refine x_iconst hC (v := (nI 3)) dX6_findPlanes_87 rfl ?_
              refine x_isubE hC (z := (zI ((((t % 7) : Nat) : Int) - 3))) (zI_sub (((t % 7) : Nat) : Int) 3) dX6_findPlanes_88 ?_
              refine x_iast hC 18 0 rfl rfl (by decide) (by decide) (mw c b (mkP τ f (nI p) g (upd (upd (upd (upd v 0 (zI ((((t / 343) : Nat) : Int) - 3))) 1 (zI (((((t / 49) % 7) : Nat) : Int) - 3))) 2 (zI (((((t / 7) % 7) : Nat) : Int) - 3))) 3 (zI ((((t % 7) : Nat) : Int) - 3))))) rfl dX6_findPlanes_89 ?_
              refine x_bipush hC (v := (zI (-6))) dX6_findPlanes_90 rfl ?_
              refine x_istore_n hC [(2, .int (zI (-6))), (0, .ref (b 0)), (1, .int (nI t))] rfl (lt_n hn rfl) dX6_findPlanes_92 ?_
              refine x_lv [1, 2, 0] rfl ?_
              have L93 : ∀ (N93 : Nat) (v : Nat → Int32) (f : Nat → Int32) (p : Nat) (g : Nat → Int32) (e : Nat) (z : Int), 13 - e < N93 → (∀ i, i < 4 → v i = zI (wv t i)) → (e ≤ 13) → (z = ce e) → (PS (S 10) (t * 13 + e) f p g) → XW F 0 0 (mw c b (mkP τ f (nI p) g v)) [(0, .ref (b 0)), (1, .int (nI t)), (2, .int (zI z))] 93 [] := by
                intro N93
                induction N93 with
                | zero => intro v f p g e z hN93 hv4 he13 he hps; exact absurd hN93 (by omega)
                | succ N93 ih93 =>
                  intro v f p g e z hN93 hv4 he13 he hps
                  have hz6 : z = (e : Int) - 6 := he
                  refine x_iload_n hC 2 rfl dX6_findPlanes_93 ?_
                  refine x_bipush hC (v := (nI 6)) dX6_findPlanes_94 rfl ?_
                  refine x_icmp_gtZ hC (a := z) (b := 6) 118 dX6_findPlanes_96 rfl (by rw [he]; unfold ce; omega) (by omega) (fun h96 => ?_) (fun h96 => ?_)
                  · -- 96 T
                    refine x_iinc hC (z := 1) (v := (nI (t + 1))) 1 rfl (nI_add t 1) [(1, .int (nI (t + 1))), (0, .ref (b 0)), (2, .int (zI z))] rfl (lt_n hn rfl) dX6_findPlanes_118 ?_
                    refine x_goto hC 28 dX6_findPlanes_121 rfl ?_
                    refine x_lv [1, 0] rfl ?_
                    exact ih28 f p g v (t + 1) (by omega) (by omega) (by rw [show (t + 1) * 13 = t * 13 + e by omega]; exact hps)
                  · -- 96 F
                    refine x_aload_n hC 0 rfl dX6_findPlanes_99 ?_
                    refine x_iload_n hC 2 rfl dX6_findPlanes_100 ?_
                    refine x_callVI hC cw_X6_169 (c_X6_isPlane (z := z) (t := t) (A := (S 10)) hv4 (by omega) (by rw [he]; unfold ce; omega) (fun q h => (hI.pair q h).1) (fun q h => (hV.pair q h).1)) dX6_findPlanes_101 [] rfl (Nat.le_of_ble_eq_true rfl) rfl (rm_ok hRm (by decide) (by decide)) 6 0 rfl rfl (fun r101 m101 hp101 => ?_)
                    obtain ⟨rfl, rfl⟩ := hp101
                    have hpe : px9 (S 10) (t * 13 + e) = okp (S 10) t z := by unfold px9; rw [he, show (t * 13 + e) / 13 = t by omega, show (t * 13 + e) % 13 = e by omega]
                    refine x_if_eqB hC 112 dX6_findPlanes_104 rfl (fun h104 => ?_) (fun h104 => ?_)
                    · -- 104 T
                      have hpx := hpe.trans h104
                      refine x_iinc hC (z := 1) (v := (zI (z + 1))) 2 rfl (zI_add z 1) [(2, .int (zI (z + 1))), (0, .ref (b 0)), (1, .int (nI t))] rfl (lt_n hn rfl) dX6_findPlanes_112 ?_
                      refine x_goto hC 93 dX6_findPlanes_115 rfl ?_
                      refine x_lv [1, 2, 0] rfl ?_
                      exact ih93 v f p g (e + 1) (z + 1) (by omega) hv4 (by omega) (by rw [he]; unfold ce; omega) (hps.skip hpx)
                    · -- 104 F
                      have hpx := hpe.trans h104
                      refine x_aload_n hC 0 rfl dX6_findPlanes_107 ?_
                      refine x_iload_n hC 2 rfl dX6_findPlanes_108 ?_
                      refine x_callVV hC cw_X6_172 (c_X6_adds (z := z) (O := (fun q => cno (S 10) q (t * 13 + e))) hv4 (by omega) (by rw [he]; unfold ce; omega) (by have := cnx_le (S 10) (t * 13 + e); have := hps.1; omega) hps.2.1) dX6_findPlanes_109 [] rfl (Nat.le_of_ble_eq_true rfl) rfl (rm_ok hRm (by decide) (by decide)) 6 0 rfl rfl (fun m109 hp109 => ?_)
                      obtain ⟨f2, g2, rfl, hg2, hf2⟩ := hp109
                      rw [he] at hg2 hf2
                      refine x_iinc hC (z := 1) (v := (zI (z + 1))) 2 rfl (zI_add z 1) [(2, .int (zI (z + 1))), (0, .ref (b 0)), (1, .int (nI t))] rfl (lt_n hn rfl) dX6_findPlanes_112 ?_
                      refine x_goto hC 93 dX6_findPlanes_115 rfl ?_
                      refine x_lv [1, 2, 0] rfl ?_
                      exact ih93 v f2 (p + 1) g2 (e + 1) (z + 1) (by omega) hv4 (by omega) (by rw [he]; unfold ce; omega) (hps.add (by omega) hpx hg2 hf2)
              exact L93 _ (upd (upd (upd (upd v 0 (zI ((((t / 343) : Nat) : Int) - 3))) 1 (zI (((((t / 49) % 7) : Nat) : Int) - 3))) 2 (zI (((((t / 7) % 7) : Nat) : Int) - 3))) 3 (zI ((((t % 7) : Nat) : Int) - 3))) f p g 0 (-6) (Nat.lt_succ_self _) (fun i hi => by rcases (show i = 0 ∨ i = 1 ∨ i = 2 ∨ i = 3 by omega) with rfl | rfl | rfl | rfl <;> rfl) (by omega) rfl hps0
        exact L28 _ (τ.1 16) 0 g (τ.1 18) 0 (Nat.lt_succ_self _) (by omega) (⟨rfl, fun q hq => hg q (by omega), fun h => absurd (show 0 < 0 from h) (by decide)⟩)
      · -- 10 F
        refine x_aload_n hC 0 rfl dX6_findPlanes_13 ?_
        refine x_get hC fl_X6_64 dX6_findPlanes_14 0 rfl rfl ?_
        refine x_iload_n hC 1 rfl dX6_findPlanes_17 ?_
        refine x_iconst hC (v := (nI 0)) dX6_findPlanes_18 rfl ?_
        refine x_iast hC 17 0 rfl rfl (by omega) (by decide) (mw c b (mkP τ (τ.1 16) (nI 0) (upd g i (nI 0)) (τ.1 18))) rfl dX6_findPlanes_19 ?_
        refine x_iinc hC (z := 1) (v := (nI (i + 1))) 1 rfl (nI_add i 1) [(1, .int (nI (i + 1))), (0, .ref (b 0))] rfl (lt_n hn rfl) dX6_findPlanes_20 ?_
        refine x_goto hC 7 dX6_findPlanes_23 rfl ?_
        refine x_lv [1, 0] rfl ?_
        exact ih7 (upd g i (nI 0)) (i + 1) (by omega) (by omega) (upd_all (Q := fun j x => x = nI 0) hg rfl)
  exact L7 _ (τ.1 17) 0 (Nat.lt_succ_self _) (by omega) (fun j h => absurd h (by omega))
set_option maxHeartbeats 4000000 in
set_option maxRecDepth 100000 in
theorem c_X6_planes {l : Launch} {D : va_G} {c : Nat → ClassId} {b : Nat → Nat} {τ : MM} {S : SS} (hI : MI τ S) (hV : SV S)  : KI l D (tyE c) (mw c b) yX6_planes cX6_planes 1 .int (rmL 4) [.ref (b 0)] τ (fun r u => r = (sp_planes S).1 ∧ MI u (sp_planes S).2) := by
  refine x_enterI (by decide) (Nat.le_of_ble_eq_true rfl) (fun F hl hD hn hRm hC hR => ?_)
  subst hl hD
  change XW F 0 0 (mw c b τ) [(0, .ref (b 0))] 0 []
  change FC F cX6_planes RX6 (tyE c) at hC
  have hn1 := hV.n1
  have hn2 := hV.n2
  have hpn := hV.pn
  have hk6 := hV.k
  have hpk := hV.pk
  have hpk1 := SV.pk1 S
  have hch8 := hV.chips
  have hmk := hV.mask
  have hmk31 : S 0 1 < 2 ^ 31 := by omega
  refine x_aload_n hC 0 rfl dX6_planes_0 ?_
  refine x_callVV hC cw_X6_181 (c_X6_findPlanes  (S := S) (by first | assumption | exact hI.mb | omega) (by first | assumption | exact hI.mb | omega)) dX6_planes_1 [] rfl (Nat.le_of_ble_eq_true rfl) rfl (rm_ok hRm (by decide) (by decide)) 6 0 rfl rfl (fun m1 hp1 => ?_)
  obtain ⟨hM, hs6, hs20, hs19⟩ := hp1
  refine x_aload_n hC 0 rfl dX6_planes_4 ?_
  refine x_get hC fl_X6_166 dX6_planes_5 0 rfl (v := .int (nI (plc (S 10)))) (xv hs6) ?_
  exact x_iret hC hR dX6_planes_8 (sp_leafM (by simp [sp_planes]) (hM))
set_option maxHeartbeats 4000000 in
set_option maxRecDepth 100000 in
theorem c_X6_plane {l : Launch} {D : va_G} {c : Nat → ClassId} {b : Nat → Nat} {τ : MM} {x : Int32} {S : SS} (hI : MI τ S) (hV : SV S)  : KI l D (tyE c) (mw c b) yX6_plane cX6_plane 2 .int (rmL 4) [.ref (b 0), .int x] τ (fun r u => r = (sp_plane S x).1 ∧ MI u (sp_plane S x).2) := by
  refine x_enterI (by decide) (Nat.le_of_ble_eq_true rfl) (fun F hl hD hn hRm hC hR => ?_)
  subst hl hD
  change XW F 0 0 (mw c b τ) [(0, .ref (b 0)), (1, .int x)] 0 []
  change FC F cX6_plane RX6 (tyE c) at hC
  have hn1 := hV.n1
  have hn2 := hV.n2
  have hpn := hV.pn
  have hk6 := hV.k
  have hpk := hV.pk
  have hpk1 := SV.pk1 S
  have hch8 := hV.chips
  have hmk := hV.mask
  have hmk31 : S 0 1 < 2 ^ 31 := by omega
  refine x_iload_n hC 1 rfl dX6_plane_0 ?_
  refine x_iconst hC (v := (nI 5)) dX6_plane_1 rfl ?_
  refine x_callN hC cs_X6_73 (c_X6_isIn (x := x) (m := 5)  (by first | assumption | exact hI.mb | omega)) dX6_plane_2 [] rfl (Nat.le_of_ble_eq_true rfl) rfl (rm_ok hRm (by decide) (by decide)) ?_
  refine x_if_neB hC 15 dX6_plane_5 rfl (fun h5 => ?_) (fun h5 => ?_)
  · -- 5 T
    obtain ⟨v, hv, rfl⟩ := isI_T h5
    have tv := tn_nI (v := v) (by omega)
    refine x_aload_n hC 0 rfl dX6_plane_15 ?_
    refine x_callVV hC cw_X6_181 (c_X6_findPlanes  (S := S) (by first | assumption | exact hI.mb | omega) (by first | assumption | exact hI.mb | omega)) dX6_plane_16 [] rfl (Nat.le_of_ble_eq_true rfl) rfl (rm_ok hRm (by decide) (by decide)) 6 0 rfl rfl (fun m16 hp16 => ?_)
    obtain ⟨hM, hs6, hs20, hs19⟩ := hp16
    refine x_aload_n hC 0 rfl dX6_plane_19 ?_
    refine x_get hC fl_X6_166 dX6_plane_20 0 rfl (v := .int (nI (plc (S 10)))) (xv hs6) ?_
    refine x_if_neN hC 31 dX6_plane_23 rfl (by have := plc_b (S 10); omega) (fun h23 => ?_) (fun h23 => ?_)
    · -- 23 T
      refine x_aload_n hC 0 rfl dX6_plane_31 ?_
      refine x_get hC fl_X6_61 dX6_plane_32 0 rfl rfl ?_
      refine x_iload_n hC 1 rfl dX6_plane_35 ?_
      refine x_iald hC 16 0 rfl rfl (y := (zI (plf (S 10) v))) (by omega) (by decide) (hs19 (by omega) v (by omega)) dX6_plane_36 ?_
      refine x_bipush hC (v := (nI 10)) dX6_plane_37 rfl ?_
      refine x_iaddE hC (z := (zI ((plf (S 10) v) + 10))) (zI_add (plf (S 10) v) 10) dX6_plane_39 ?_
      exact x_iret hC hR dX6_plane_40 (sp_leafM (by simp [sp_plane, h5, h23, tv]) (hM))
    · -- 23 F
      refine x_bipush hC (v := (zI (-9))) dX6_plane_26 rfl ?_
      refine x_goto hC 40 dX6_plane_28 rfl ?_
      exact x_iret hC hR dX6_plane_40 (sp_leafM (by simp [sp_plane, h5, h23, tv]) (hM))
  · -- 5 F
    refine x_aload_n hC 0 rfl dX6_plane_8 ?_
    refine x_bipush hC (v := (zI (-2))) dX6_plane_9 rfl ?_
    refine x_callVI hC cw_X6_94 (c_X6_refuse (z := (-2)) (j := 2) (v := (S 1 2)) (by decide) (by decide) (hI.ref 2 (by decide))) dX6_plane_11 [] rfl (Nat.le_of_ble_eq_true rfl) rfl (rm_ok hRm (by decide) (by decide)) 6 0 rfl rfl (fun r11 m11 hp11 => ?_)
    obtain ⟨rfl, rfl⟩ := hp11
    exact x_iret hC hR dX6_plane_14 (sp_leafM (by simp [sp_plane, h5]) (hI.rfs 2 (by decide)))
set_option maxHeartbeats 4000000 in
set_option maxRecDepth 100000 in
theorem c_X6_foretold {l : Launch} {D : va_G} {c : Nat → ClassId} {b : Nat → Nat} {τ : MM} {x : Int32} {S : SS} (hI : MI τ S) (hV : SV S)  : KI l D (tyE c) (mw c b) yX6_foretold cX6_foretold 2 .int (rmL 4) [.ref (b 0), .int x] τ (fun r u => r = (sp_foretold S x).1 ∧ MI u (sp_foretold S x).2) := by
  refine x_enterI (by decide) (Nat.le_of_ble_eq_true rfl) (fun F hl hD hn hRm hC hR => ?_)
  subst hl hD
  change XW F 0 0 (mw c b τ) [(0, .ref (b 0)), (1, .int x)] 0 []
  change FC F cX6_foretold RX6 (tyE c) at hC
  have hn1 := hV.n1
  have hn2 := hV.n2
  have hpn := hV.pn
  have hk6 := hV.k
  have hpk := hV.pk
  have hpk1 := SV.pk1 S
  have hch8 := hV.chips
  have hmk := hV.mask
  have hmk31 : S 0 1 < 2 ^ 31 := by omega
  refine x_iload_n hC 1 rfl dX6_foretold_0 ?_
  refine x_bipush hC (v := (nI 16)) dX6_foretold_1 rfl ?_
  refine x_callN hC cs_X6_73 (c_X6_isIn (x := x) (m := 16)  (by first | assumption | exact hI.mb | omega)) dX6_foretold_3 [] rfl (Nat.le_of_ble_eq_true rfl) rfl (rm_ok hRm (by decide) (by decide)) ?_
  refine x_if_neB hC 15 dX6_foretold_6 rfl (fun h6 => ?_) (fun h6 => ?_)
  · -- 6 T
    obtain ⟨v, hv, rfl⟩ := isI_T h6
    have tv := tn_nI (v := v) (by omega)
    refine x_aload_n hC 0 rfl dX6_foretold_15 ?_
    refine x_callVV hC cw_X6_181 (c_X6_findPlanes  (S := S) (by first | assumption | exact hI.mb | omega) (by first | assumption | exact hI.mb | omega)) dX6_foretold_16 [] rfl (Nat.le_of_ble_eq_true rfl) rfl (rm_ok hRm (by decide) (by decide)) 6 0 rfl rfl (fun m16 hp16 => ?_)
    obtain ⟨hM, hs6, hs20, hs19⟩ := hp16
    refine x_aload_n hC 0 rfl dX6_foretold_19 ?_
    refine x_get hC fl_X6_166 dX6_foretold_20 0 rfl (v := .int (nI (plc (S 10)))) (xv hs6) ?_
    refine x_if_neN hC 30 dX6_foretold_23 rfl (by have := plc_b (S 10); omega) (fun h23 => ?_) (fun h23 => ?_)
    · -- 23 T
      refine x_aload_n hC 0 rfl dX6_foretold_30 ?_
      refine x_get hC fl_X6_64 dX6_foretold_31 0 rfl rfl ?_
      refine x_iload_n hC 1 rfl dX6_foretold_34 ?_
      refine x_iald hC 17 0 rfl rfl (y := (nI (plo (S 10) v))) (by omega) (by decide) (hs20 v (by omega)) dX6_foretold_35 ?_
      refine x_aload_n hC 0 rfl dX6_foretold_36 ?_
      refine x_get hC fl_X6_166 dX6_foretold_37 0 rfl (v := .int (nI (plc (S 10)))) (xv hs6) ?_
      refine x_icmp_neN hC 47 dX6_foretold_40 rfl (by have := plc_b (S 10); have := plo_le (S 10) v; omega) (by have := plc_b (S 10); omega) (fun h40 => ?_) (fun h40 => ?_)
      · -- 40 T
        refine x_aload_n hC 0 rfl dX6_foretold_47 ?_
        refine x_get hC fl_X6_64 dX6_foretold_48 0 rfl rfl ?_
        refine x_iload_n hC 1 rfl dX6_foretold_51 ?_
        refine x_iald hC 17 0 rfl rfl (y := (nI (plo (S 10) v))) (by omega) (by decide) (hs20 v (by omega)) dX6_foretold_52 ?_
        refine x_if_neN hC 60 dX6_foretold_53 rfl (by have := plc_b (S 10); have := plo_le (S 10) v; omega) (fun h53 => ?_) (fun h53 => ?_)
        · -- 53 T
          refine x_iconst hC (v := (nI 2)) dX6_foretold_60 rfl ?_
          exact x_iret hC hR dX6_foretold_61 (sp_leafM (by simp only [sp_foretold, h6, tv, if_true, frt]; rw [if_neg h23, if_neg h40, if_neg h53]) hM)
        · -- 53 F
          refine x_iconst hC (v := (nI 0)) dX6_foretold_56 rfl ?_
          refine x_goto hC 61 dX6_foretold_57 rfl ?_
          exact x_iret hC hR dX6_foretold_61 (sp_leafM (by simp only [sp_foretold, h6, tv, if_true, frt]; rw [if_neg h23, if_neg h40, if_pos h53]) hM)
      · -- 40 F
        refine x_iconst hC (v := (nI 1)) dX6_foretold_43 rfl ?_
        refine x_goto hC 61 dX6_foretold_44 rfl ?_
        exact x_iret hC hR dX6_foretold_61 (sp_leafM (by simp only [sp_foretold, h6, tv, if_true, frt]; rw [if_neg h23, if_pos h40]) hM)
    · -- 23 F
      refine x_iconst hC (v := (nI 3)) dX6_foretold_26 rfl ?_
      refine x_goto hC 61 dX6_foretold_27 rfl ?_
      exact x_iret hC hR dX6_foretold_61 (sp_leafM (by simp only [sp_foretold, h6, tv, if_true, frt]; rw [if_pos h23]) hM)
  · -- 6 F
    refine x_aload_n hC 0 rfl dX6_foretold_9 ?_
    refine x_iconst hC (v := (zI (-1))) dX6_foretold_10 rfl ?_
    refine x_callVI hC cw_X6_94 (c_X6_refuse (z := (-1)) (j := 1) (v := (S 1 1)) (by decide) (by decide) (hI.ref 1 (by decide))) dX6_foretold_11 [] rfl (Nat.le_of_ble_eq_true rfl) rfl (rm_ok hRm (by decide) (by decide)) 6 0 rfl rfl (fun r11 m11 hp11 => ?_)
    obtain ⟨rfl, rfl⟩ := hp11
    exact x_iret hC hR dX6_foretold_14 (sp_leafM (by simp [sp_foretold, h6]) (hI.rfs 1 (by decide)))
set_option maxHeartbeats 4000000 in
set_option maxRecDepth 100000 in
theorem c_X6_next {l : Launch} {D : va_G} {c : Nat → ClassId} {b : Nat → Nat} {τ : MM} {S : SS} (hI : MI τ S) (hV : SV S)  : KI l D (tyE c) (mw c b) yX6_next cX6_next 5 .int (rmL 4) [.ref (b 0)] τ (fun r u => r = (sp_next S).1 ∧ MI u (sp_next S).2) := by
  refine x_enterI (by decide) (Nat.le_of_ble_eq_true rfl) (fun F hl hD hn hRm hC hR => ?_)
  subst hl hD
  change XW F 0 0 (mw c b τ) [(0, .ref (b 0))] 0 []
  change FC F cX6_next RX6 (tyE c) at hC
  have hn1 := hV.n1
  have hn2 := hV.n2
  have hpn := hV.pn
  have hk6 := hV.k
  have hpk := hV.pk
  have hpk1 := SV.pk1 S
  have hch8 := hV.chips
  have hmk := hV.mask
  have hmk31 : S 0 1 < 2 ^ 31 := by omega
  refine x_aload_n hC 0 rfl dX6_next_0 ?_
  refine x_callVV hC cw_X6_181 (c_X6_findPlanes  (S := S) (by first | assumption | exact hI.mb | omega) (by first | assumption | exact hI.mb | omega)) dX6_next_1 [] rfl (Nat.le_of_ble_eq_true rfl) rfl (rm_ok hRm (by decide) (by decide)) 6 0 rfl rfl (fun m1 hp1 => ?_)
  obtain ⟨hM, hs6, hs20, hs19⟩ := hp1
  refine x_bipush hC (v := (zI (-9))) dX6_next_4 rfl ?_
  refine x_istore_n hC [(1, .int (zI (-9))), (0, .ref (b 0))] rfl (lt_n hn rfl) dX6_next_6 ?_
  refine x_iconst hC (v := (nI 0)) dX6_next_7 rfl ?_
  refine x_istore_n hC [(2, .int (nI 0)), (1, .int (zI (-9))), (0, .ref (b 0))] rfl (lt_n hn rfl) dX6_next_8 ?_
  refine x_iconst hC (v := (nI 0)) dX6_next_9 rfl ?_
  refine x_istore_n hC [(3, .int (nI 0)), (2, .int (nI 0)), (1, .int (zI (-9))), (0, .ref (b 0))] rfl (lt_n hn rfl) dX6_next_10 ?_
  refine x_lv [3, 2, 1, 0] rfl ?_
  have L11 : ∀ (N11 : Nat) (e : Int) (ls : Nat) (i : Nat), 16 - i < N11 → (i ≤ 16) → ((nb9 (S 10) i = none ∧ e = -9) ∨ (∃ x, nb9 (S 10) i = some x ∧ e = (x : Int) ∧ ls = gr9 (S 10) x ∧ x < 16 ∧ 0 < plc (S 10))) → XW F 0 0 (mw c b m1) [(0, .ref (b 0)), (1, .int (zI e)), (2, .int (nI ls)), (3, .int (nI i))] 11 [] := by
    intro N11
    induction N11 with
    | zero => intro e ls i hN11 hi hb; exact absurd hN11 (by omega)
    | succ N11 ih11 =>
      intro e ls i hN11 hi hb
      have hplb := plc_b (S 10)
      have hplo := plo_le (S 10)
      rcases hb with ⟨hbn, rfl⟩ | ⟨x, hbn, rfl, rfl, hx16, hpl0⟩
      · skip
        change XW F 0 0 (mw c b m1) [(0, .ref (b 0)), (1, .int (zI (-9))), (2, .int (nI ls)), (3, .int (nI i))] 11 []
        refine x_iload_n hC 3 rfl dX6_next_11 ?_
        refine x_bipush hC (v := (nI 16)) dX6_next_12 rfl ?_
        refine x_icmp_geN hC 79 dX6_next_14 rfl (by omega) (by decide) (fun h14 => ?_) (fun h14 => ?_)
        · -- 14 T
          refine x_iload_n hC 1 rfl dX6_next_79 ?_
          exact x_iret hC hR dX6_next_80 (sp_leafM (by have e : nq9 (S 10) = none := (by rw [nq9]; split; rfl; rw [← show i = 16 by omega]; exact hbn); rw [sp_next, e]) hM)
        · -- 14 F
          refine x_aload_n hC 0 rfl dX6_next_17 ?_
          refine x_get hC fl_X6_166 dX6_next_18 0 rfl (v := .int (nI (plc (S 10)))) (xv hs6) ?_
          refine x_if_leN hC 79 dX6_next_21 rfl (by have := plc_b (S 10); omega) (fun h21 => ?_) (fun h21 => ?_)
          · -- 21 T
            refine x_iload_n hC 1 rfl dX6_next_79 ?_
            exact x_iret hC hR dX6_next_80 (sp_leafM (by rw [sp_next, nq9, if_pos (by omega)]) hM)
          · -- 21 F
            refine x_aload_n hC 0 rfl dX6_next_24 ?_
            refine x_get hC fl_X6_64 dX6_next_25 0 rfl rfl ?_
            refine x_iload_n hC 3 rfl dX6_next_28 ?_
            refine x_iald hC 17 0 rfl rfl (y := (nI (plo (S 10) i))) (by omega) (by decide) (hs20 i (by omega)) dX6_next_29 ?_
            refine x_aload_n hC 0 rfl dX6_next_30 ?_
            refine x_get hC fl_X6_166 dX6_next_31 0 rfl (v := .int (nI (plc (S 10)))) (xv hs6) ?_
            refine x_aload_n hC 0 rfl dX6_next_34 ?_
            refine x_get hC fl_X6_64 dX6_next_35 0 rfl rfl ?_
            refine x_iload_n hC 3 rfl dX6_next_38 ?_
            refine x_iald hC 17 0 rfl rfl (y := (nI (plo (S 10) i))) (by omega) (by decide) (hs20 i (by omega)) dX6_next_39 ?_
            refine x_isubE hC (z := (nI ((plc (S 10)) - (plo (S 10) i)))) (pk_sub (hplo i)) dX6_next_40 ?_
            refine x_max hC cm_X6_184 dX6_next_41 (v := (nI (gr9 (S 10) i))) (nI_max (by have := hplo i; omega) (by omega)) (by rw [hRm]; decide) (by rw [hRm]; exact Nat.le_of_ble_eq_true rfl) (by rw [hRm]; decide) (by rw [hRm]; decide) ?_
            refine x_istore hC [(4, .int (nI (gr9 (S 10) i))), (0, .ref (b 0)), (1, .int (zI (-9))), (2, .int (nI ls)), (3, .int (nI i))] rfl (lt_n hn rfl) dX6_next_44 ?_
            have hbi := (hV.pair i (by omega)).1
            refine x_aload_n hC 1 rfl dX6_next_46 ?_
            refine x_get hC fl_X6_34 dX6_next_47 0 rfl rfl ?_
            refine x_iload_n hC 4 rfl dX6_next_50 ?_
            refine x_iald hC 9 0 rfl rfl (y := (zI ((S 10 i : Int) - 1))) (by omega) (by decide) ((hM.pair i (by omega)).1) dX6_next_51 ?_
            refine x_if_geZ hC (a := ((S 10 i : Int) - 1)) 73 dX6_next_52 rfl (by omega) (fun h52 => ?_) (fun h52 => ?_)
            · -- 52 T
              refine x_iinc hC (z := 1) (v := (nI (i + 1))) 4 rfl (nI_add i 1) [(3, .int (nI (i + 1))), (4, .int (nI (gr9 (S 10) i))), (0, .ref (b 0)), (1, .int (zI (-9))), (2, .int (nI ls))] rfl (lt_n hn rfl) dX6_next_73 ?_
              refine x_goto hC 11 dX6_next_76 rfl ?_
              refine x_lv [2, 3, 4, 0] rfl ?_
              exact ih11 (-9) ls (i + 1) (by omega) (by omega) (Or.inl ⟨by rw [nb9_n hbn, if_neg (by omega)], rfl⟩)
            · -- 52 F
              refine x_iload_n hC 2 rfl dX6_next_55 ?_
              refine x_if_lt_T hC 68 dX6_next_56 rfl (by decide) ?_
              refine x_iload_n hC 4 rfl dX6_next_68 ?_
              refine x_istore_n hC [(1, .int (nI i)), (4, .int (nI (gr9 (S 10) i))), (0, .ref (b 0)), (2, .int (nI ls)), (3, .int (nI i))] rfl (lt_n hn rfl) dX6_next_69 ?_
              refine x_iload hC 1 rfl dX6_next_70 ?_
              refine x_istore_n hC [(2, .int (nI (gr9 (S 10) i))), (1, .int (nI i)), (4, .int (nI (gr9 (S 10) i))), (0, .ref (b 0)), (3, .int (nI i))] rfl (lt_n hn rfl) dX6_next_72 ?_
              refine x_iinc hC (z := 1) (v := (nI (i + 1))) 4 rfl (nI_add i 1) [(3, .int (nI (i + 1))), (2, .int (nI (gr9 (S 10) i))), (1, .int (nI i)), (4, .int (nI (gr9 (S 10) i))), (0, .ref (b 0))] rfl (lt_n hn rfl) dX6_next_73 ?_
              refine x_goto hC 11 dX6_next_76 rfl ?_
              refine x_lv [4, 2, 1, 0] rfl ?_
              exact ih11 ((i : Nat) : Int) (gr9 (S 10) i) (i + 1) (by omega) (by omega) (Or.inr ⟨i, by rw [nb9_n hbn, if_pos (by omega)], rfl, rfl, by omega, by omega⟩)
      · skip
        change XW F 0 0 (mw c b m1) [(0, .ref (b 0)), (1, .int (nI x)), (2, .int (nI (gr9 (S 10) x))), (3, .int (nI i))] 11 []
        refine x_iload_n hC 3 rfl dX6_next_11 ?_
        refine x_bipush hC (v := (nI 16)) dX6_next_12 rfl ?_
        refine x_icmp_geN hC 79 dX6_next_14 rfl (by omega) (by decide) (fun h14 => ?_) (fun h14 => ?_)
        · -- 14 T
          refine x_iload_n hC 1 rfl dX6_next_79 ?_
          exact x_iret hC hR dX6_next_80 (sp_leafM (by have e : nq9 (S 10) = some x := (by rw [nq9, if_neg (by omega), ← show i = 16 by omega]; exact hbn); rw [sp_next, e]) hM)
        · -- 14 F
          refine x_aload_n hC 0 rfl dX6_next_17 ?_
          refine x_get hC fl_X6_166 dX6_next_18 0 rfl (v := .int (nI (plc (S 10)))) (xv hs6) ?_
          refine x_if_leN hC 79 dX6_next_21 rfl (by have := plc_b (S 10); omega) (fun h21 => ?_) (fun h21 => ?_)
          · -- 21 T
            exact absurd h21 (by omega)
          · -- 21 F
            refine x_aload_n hC 0 rfl dX6_next_24 ?_
            refine x_get hC fl_X6_64 dX6_next_25 0 rfl rfl ?_
            refine x_iload_n hC 3 rfl dX6_next_28 ?_
            refine x_iald hC 17 0 rfl rfl (y := (nI (plo (S 10) i))) (by omega) (by decide) (hs20 i (by omega)) dX6_next_29 ?_
            refine x_aload_n hC 0 rfl dX6_next_30 ?_
            refine x_get hC fl_X6_166 dX6_next_31 0 rfl (v := .int (nI (plc (S 10)))) (xv hs6) ?_
            refine x_aload_n hC 0 rfl dX6_next_34 ?_
            refine x_get hC fl_X6_64 dX6_next_35 0 rfl rfl ?_
            refine x_iload_n hC 3 rfl dX6_next_38 ?_
            refine x_iald hC 17 0 rfl rfl (y := (nI (plo (S 10) i))) (by omega) (by decide) (hs20 i (by omega)) dX6_next_39 ?_
            refine x_isubE hC (z := (nI ((plc (S 10)) - (plo (S 10) i)))) (pk_sub (hplo i)) dX6_next_40 ?_
            refine x_max hC cm_X6_184 dX6_next_41 (v := (nI (gr9 (S 10) i))) (nI_max (by have := hplo i; omega) (by omega)) (by rw [hRm]; decide) (by rw [hRm]; exact Nat.le_of_ble_eq_true rfl) (by rw [hRm]; decide) (by rw [hRm]; decide) ?_
            refine x_istore hC [(4, .int (nI (gr9 (S 10) i))), (0, .ref (b 0)), (1, .int (nI x)), (2, .int (nI (gr9 (S 10) x))), (3, .int (nI i))] rfl (lt_n hn rfl) dX6_next_44 ?_
            have hbi := (hV.pair i (by omega)).1
            refine x_aload_n hC 1 rfl dX6_next_46 ?_
            refine x_get hC fl_X6_34 dX6_next_47 0 rfl rfl ?_
            refine x_iload_n hC 4 rfl dX6_next_50 ?_
            refine x_iald hC 9 0 rfl rfl (y := (zI ((S 10 i : Int) - 1))) (by omega) (by decide) ((hM.pair i (by omega)).1) dX6_next_51 ?_
            refine x_if_geZ hC (a := ((S 10 i : Int) - 1)) 73 dX6_next_52 rfl (by omega) (fun h52 => ?_) (fun h52 => ?_)
            · -- 52 T
              refine x_iinc hC (z := 1) (v := (nI (i + 1))) 4 rfl (nI_add i 1) [(3, .int (nI (i + 1))), (4, .int (nI (gr9 (S 10) i))), (0, .ref (b 0)), (1, .int (nI x)), (2, .int (nI (gr9 (S 10) x)))] rfl (lt_n hn rfl) dX6_next_73 ?_
              refine x_goto hC 11 dX6_next_76 rfl ?_
              refine x_lv [2, 3, 4, 0] rfl ?_
              exact ih11 ((x : Nat) : Int) (gr9 (S 10) x) (i + 1) (by omega) (by omega) (Or.inr ⟨x, by rw [nb9_s hbn, if_neg (fun q => absurd q.1 (by omega))], rfl, rfl, hx16, hpl0⟩)
            · -- 52 F
              refine x_iload_n hC 2 rfl dX6_next_55 ?_
              refine x_if_lt_F hC 68 dX6_next_56 rfl (by rw [i32_lt, i32_0, nI_toI (by omega)]; omega) ?_
              refine x_iload hC 0 rfl dX6_next_59 ?_
              refine x_iload_n hC 3 rfl dX6_next_61 ?_
              refine x_icmp_ltN hC 68 dX6_next_62 rfl (by have := gr9_b (S 10) i; omega) (by have := gr9_b (S 10) x; omega) (fun h62 => ?_) (fun h62 => ?_)
              · -- 62 T
                refine x_iload_n hC 4 rfl dX6_next_68 ?_
                refine x_istore_n hC [(1, .int (nI i)), (4, .int (nI (gr9 (S 10) i))), (0, .ref (b 0)), (2, .int (nI (gr9 (S 10) x))), (3, .int (nI i))] rfl (lt_n hn rfl) dX6_next_69 ?_
                refine x_iload hC 1 rfl dX6_next_70 ?_
                refine x_istore_n hC [(2, .int (nI (gr9 (S 10) i))), (1, .int (nI i)), (4, .int (nI (gr9 (S 10) i))), (0, .ref (b 0)), (3, .int (nI i))] rfl (lt_n hn rfl) dX6_next_72 ?_
                refine x_iinc hC (z := 1) (v := (nI (i + 1))) 4 rfl (nI_add i 1) [(3, .int (nI (i + 1))), (2, .int (nI (gr9 (S 10) i))), (1, .int (nI i)), (4, .int (nI (gr9 (S 10) i))), (0, .ref (b 0))] rfl (lt_n hn rfl) dX6_next_73 ?_
                refine x_goto hC 11 dX6_next_76 rfl ?_
                refine x_lv [4, 2, 1, 0] rfl ?_
                exact ih11 ((i : Nat) : Int) (gr9 (S 10) i) (i + 1) (by omega) (by omega) (Or.inr ⟨i, by rw [nb9_s hbn, if_pos ⟨by omega, h62⟩], rfl, rfl, by omega, hpl0⟩)
              · -- 62 F
                refine x_goto hC 73 dX6_next_65 rfl ?_
                refine x_iinc hC (z := 1) (v := (nI (i + 1))) 4 rfl (nI_add i 1) [(3, .int (nI (i + 1))), (4, .int (nI (gr9 (S 10) i))), (0, .ref (b 0)), (1, .int (nI x)), (2, .int (nI (gr9 (S 10) x)))] rfl (lt_n hn rfl) dX6_next_73 ?_
                refine x_goto hC 11 dX6_next_76 rfl ?_
                refine x_lv [2, 3, 4, 0] rfl ?_
                exact ih11 ((x : Nat) : Int) (gr9 (S 10) x) (i + 1) (by omega) (by omega) (Or.inr ⟨x, by rw [nb9_s hbn, if_neg (fun q => absurd q.2 (by omega))], rfl, rfl, hx16, hpl0⟩)
  exact L11 _ (-9) 0 0 (Nat.lt_succ_self _) (by omega) (Or.inl ⟨rfl, rfl⟩)
