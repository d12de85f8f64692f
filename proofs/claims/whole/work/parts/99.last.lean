/-! ways of flips, and their sum -/
def prx (fl sy : Nat → Nat) (f : Nat) : Nat → Nat
  | 0 => 1
  | i + 1 => prx fl sy f i * (if bt f i = 1 then fl i else sy i)
theorem prx_low {fl sy : Nat → Nat} {f i : Nat} (hf : f < 2 ^ i) : prx fl sy f (i + 1) = prx fl sy f i * sy i := by
  simp only [prx]
  rw [bt_low hf, if_neg (by decide)]
theorem prx_addlow (fl sy : Nat → Nat) (f k : Nat) : ∀ i, i ≤ k → prx fl sy (2 ^ k + f) i = prx fl sy f i
  | 0, _ => rfl
  | i + 1, h => by
    simp only [prx]
    rw [prx_addlow fl sy f k i (by omega), bt_addlow (by omega)]
theorem prx_add {fl sy : Nat → Nat} {f i : Nat} (hf : f < 2 ^ i) : prx fl sy (2 ^ i + f) (i + 1) = prx fl sy f i * fl i := by
  simp only [prx]
  rw [bt_add hf, if_pos rfl, prx_addlow fl sy f i i (Nat.le_refl _)]
theorem sumN_split (g : Nat → Nat) (a : Nat) : ∀ b, sumN g (a + b) = sumN g a + sumN (fun i => g (a + i)) b
  | 0 => rfl
  | b + 1 => by
    show sumN g (a + b) + g (a + b) = sumN g a + (sumN (fun i => g (a + i)) b + g (a + b))
    rw [sumN_split g a b]; omega
theorem sumN_add (f g : Nat → Nat) : ∀ m, sumN (fun i => f i + g i) m = sumN f m + sumN g m
  | 0 => rfl
  | m + 1 => by
    simp only [sumN]
    rw [sumN_add f g m]; omega
theorem sumN_mulr (f : Nat → Nat) (x : Nat) : ∀ m, sumN (fun i => f i * x) m = sumN f m * x
  | 0 => by simp [sumN]
  | m + 1 => by
    simp only [sumN]
    rw [sumN_mulr f x m, Nat.add_mul]
theorem sumN_pow (g : Nat → Nat) (i : Nat) : sumN g (2 ^ (i + 1)) = sumN (fun f => g f + g (2 ^ i + f)) (2 ^ i) := by
  rw [sumN_add, Nat.pow_succ, Nat.mul_two, sumN_split]
theorem prx_total {m : Nat} {p : Nat → Nat} : ∀ i, (∀ j, j < i → p j ≤ 8) → sumN (fun f => prx (flp m p) (sty m p) f i) (2 ^ i) = 2 ^ (3 * oc m i)
  | 0, _ => rfl
  | i + 1, h => by
    rw [sumN_pow, sumN_congr (g := fun f => prx (flp m p) (sty m p) f i * (sty m p i + flp m p i)) (fun f hf => by rw [prx_low hf, prx_add hf, Nat.mul_add]), sumN_mulr, prx_total i (fun j hj => h j (by omega))]
    have hi := h i (by omega)
    simp only [oc]
    by_cases q : bt m i = 1
    · rw [show sty m p i = 1 by unfold sty; rw [if_pos q], show flp m p i = 0 by unfold flp; rw [if_pos q], if_pos q]
      simp
    · rw [show sty m p i = 8 - p i by unfold sty; rw [if_neg q], show flp m p i = p i by unfold flp; rw [if_neg q], if_neg q, show 8 - p i + p i = 8 by omega, show 3 * (oc m i + 1) = 3 * oc m i + 3 by omega, Nat.pow_add]
theorem xor_addp {f c : Nat} (hf : f < 2 ^ c) : f ^^^ 2 ^ c = 2 ^ c + f := by
  apply Nat.eq_of_testBit_eq
  intro j
  rw [Nat.testBit_xor]
  rcases Nat.lt_trichotomy j c with h | h | h
  · rw [Nat.testBit_two_pow_add_gt h, Nat.testBit_two_pow_of_ne (by omega)]; simp
  · subst h
    rw [Nat.testBit_two_pow_add_eq, Nat.testBit_two_pow_self]; simp
  · have hp : 2 ^ (c + 1) ≤ 2 ^ j := Nat.pow_le_pow_right (by decide) h
    rw [Nat.pow_succ] at hp
    rw [Nat.testBit_lt_two_pow (x := f) (by omega), Nat.testBit_lt_two_pow (x := 2 ^ c + f) (by omega), Nat.testBit_two_pow_of_ne (by omega)]; rfl
def tx (S : SS) (key n : Nat) (fl sy : Nat → Nat) : Nat → Nat → Nat
  | 0, f => if nkS S (cw S key ^^^ f) = key then 1 else 0
  | d + 1, f => sy (n - (d + 1)) * tx S key n fl sy d f + fl (n - (d + 1)) * tx S key n fl sy d (f ^^^ 2 ^ (n - (d + 1)))
section Tx
variable {S : SS} {key n : Nat} {fl sy : Nat → Nat}
theorem tx_0 (hk : key < 2 ^ S 0 2) (hn : n ≤ 14) : ∀ (d f : Nat), d ≤ n → f < 2 ^ (n - d) → nkS S (cw S key ^^^ f) ≠ key → tx S key n fl sy d f = 0
  | 0, f, _, _, h => if_neg h
  | d + 1, f, hd, hf, h => by
    have hc : n - (d + 1) + 1 = n - d := by omega
    have h1 := tx_0 hk hn d f (by omega) (Nat.lt_trans hf (Nat.pow_lt_pow_right (by decide) (by omega))) h
    have h2 := tx_0 hk hn d (f ^^^ 2 ^ (n - (d + 1))) (by omega) (by rw [← hc]; exact xor_ltS hf) (fun q => h (nk_less hk (by omega) (bt_low hf) q))
    simp only [tx]
    rw [h1, h2, Nat.mul_zero, Nat.mul_zero]
theorem tx_hlx (hk : key < 2 ^ S 0 2) (hn : n ≤ 14) : ∀ (d f : Nat), d ≤ n → f < 2 ^ (n - d) → nkS S (cw S key ^^^ f) = key → hlx fl sy (nkS S) key n d (cw S key ^^^ f) = tx S key n fl sy d f
  | 0, f, _, _, h => (if_pos h).symm
  | d + 1, f, hd, hf, h => by
    have hc : n - (d + 1) + 1 = n - d := by omega
    have hf1 := Nat.lt_trans hf (Nat.pow_lt_pow_right (a := 2) (by decide) (show n - (d + 1) < n - d by omega))
    have hf2 : f ^^^ 2 ^ (n - (d + 1)) < 2 ^ (n - d) := by rw [← hc]; exact xor_ltS hf
    have h1 := tx_hlx hk hn d f (by omega) hf1 h
    simp only [hlx, tx]
    rw [h1, Nat.xor_assoc]
    congr 1
    by_cases q : nkS S (cw S key ^^^ (f ^^^ 2 ^ (n - (d + 1)))) = key
    · have h2 := tx_hlx hk hn d (f ^^^ 2 ^ (n - (d + 1))) (by omega) hf2 q
      by_cases z : 0 < fl (n - (d + 1))
      · rw [if_pos ⟨z, q⟩, h2]
      · rw [if_neg (fun w => z w.1), show fl (n - (d + 1)) = 0 by omega, Nat.zero_mul]
    · rw [if_neg (fun w => q w.2), tx_0 hk hn d (f ^^^ 2 ^ (n - (d + 1))) (by omega) hf2 q, Nat.mul_zero]
theorem tx_sum : ∀ (i : Nat), i ≤ n → sumN (fun f => prx fl sy f i * tx S key n fl sy (n - i) f) (2 ^ i) = tx S key n fl sy n 0
  | 0, _ => by simp [sumN, prx]
  | i + 1, h => by
    rw [← tx_sum i (by omega), sumN_pow]
    refine sumN_congr (fun f hf => ?_)
    rw [prx_low hf, prx_add hf, show n - i = n - (i + 1) + 1 by omega]
    simp only [tx]
    rw [show n - (n - (i + 1) + 1) = i by omega, xor_addp hf, Nat.mul_add, Nat.mul_assoc, Nat.mul_assoc]
end Tx
theorem prx_ne {m : Nat} {p : Nat → Nat} {f : Nat} : ∀ {n : Nat}, prx (flp m p) (sty m p) f n ≠ 0 → ∀ j, j < n → bt f j = 1 → bt m j ≠ 1
  | 0, _, j, hj, _ => absurd hj (by omega)
  | n + 1, h, j, hj, hb => by
    simp only [prx] at h
    have h1 := (Nat.mul_ne_zero_iff.mp h)
    rcases Nat.lt_succ_iff_lt_or_eq.mp hj with q | q
    · exact prx_ne h1.1 j q hb
    · subst q
      intro z
      apply h1.2
      rw [if_pos hb]
      unfold flp
      rw [if_pos z]
theorem and_0 {f m n : Nat} (hm : m < 2 ^ n) (h : ∀ j, j < n → bt f j = 1 → bt m j ≠ 1) : f &&& m = 0 := by
  apply Nat.eq_of_testBit_eq
  intro j
  rw [Nat.testBit_and, Nat.zero_testBit, bt_testBit, bt_testBit]
  by_cases q : j < n
  · by_cases z : bt f j = 1
    · have := h j q z
      simp [this]
    · simp [z]
  · have : bt m j = 0 := bt_low (Nat.lt_of_lt_of_le hm (Nat.pow_le_pow_right (by decide) (by omega)))
    simp [this]
theorem xor_and0 {a b m : Nat} (h1 : a &&& m = 0) (h2 : b &&& m = 0) : (a ^^^ b) &&& m = 0 := by rw [Nat.and_xor_distrib_right, h1, h2]; rfl
theorem cwx_and {rows : Nat → Nat} {key m : Nat} : ∀ {i : Nat}, (∀ j, j < i → rows j &&& m = 0) → cwx rows key i &&& m = 0
  | 0, _ => by simp [cwx]
  | i + 1, h => by
    have h1 := cwx_and (key := key) (i := i) (fun j hj => h j (by omega))
    simp only [cwx]
    split
    · exact xor_and0 h1 (h i (by omega))
    · exact h1
theorem cw_and {S : SS} (hV : SV S) (key : Nat) : cw S key &&& S 0 1 = 0 := cwx_and (fun j hj => (hV.rows j hj).2)
theorem mend_nk (S : SS) (w : Nat) : mend S w = nkS S (nd w (S 0 1)) := mend_eq S w
theorem mend_lt (S : SS) (w : Nat) : mend S w < 2 ^ S 0 2 := amin_lt _ (SV.pk1 S)
def FL (S : SS) (age : Nat) : Nat → Nat := flp (S 0 1) (agS S age)
def SY (S : SS) (age : Nat) : Nat → Nat := sty (S 0 1) (agS S age)
/-- the model's sum -/
def msm (S : SS) (key age : Nat) (y : Nat) : Nat := sumN (fun f => if mend S (cw S key ^^^ f) = key then 0 else prx (FL S age) (SY S age) f (S 0 0)) y
theorem msm_fail {S : SS} (hV : SV S) {key : Nat} (hk : key < 2 ^ S 0 2) (age : Nat) : msm S key age (2 ^ S 0 0) = failS S key age := by
  have h0 : hls S key age = tx S key (S 0 0) (FL S age) (SY S age) (S 0 0) 0 := by
    have := tx_hlx (fl := FL S age) (sy := SY S age) hk hV.n2 (S 0 0) 0 (Nat.le_refl _) (Nat.two_pow_pos _) (by rw [Nat.xor_zero]; exact nk_0 hV hk)
    rw [Nat.xor_zero] at this
    exact this
  have h1 := tx_sum (S := S) (key := key) (n := S 0 0) (fl := FL S age) (sy := SY S age) (S 0 0) (Nat.le_refl _)
  have h2 := prx_total (m := S 0 1) (p := agS S age) (S 0 0) (fun j _ => by have := agS_le S age j; omega)
  have h3 : msm S key age (2 ^ S 0 0) + sumN (fun f => prx (FL S age) (SY S age) f (S 0 0) * tx S key (S 0 0) (FL S age) (SY S age) (S 0 0 - S 0 0) f) (2 ^ S 0 0) = sumN (fun f => prx (FL S age) (SY S age) f (S 0 0)) (2 ^ S 0 0) := by
    unfold msm
    rw [← sumN_add]
    refine sumN_congr (fun f hf => ?_)
    rw [Nat.sub_self]
    simp only [tx]
    by_cases z : prx (FL S age) (SY S age) f (S 0 0) = 0
    · rw [z]; simp
    · have e : mend S (cw S key ^^^ f) = nkS S (cw S key ^^^ f) := by
        rw [mend_nk, nd_self (xor_and0 (cw_and hV key) (and_0 hV.mask (prx_ne z)))]
      rw [e]
      by_cases q : nkS S (cw S key ^^^ f) = key
      · rw [if_pos q, if_pos q]; omega
      · rw [if_neg q, if_neg q]; omega
  rw [h1, ← h0] at h3
  rw [failS, allS_oc hV, ← h2]
  have : sumN (fun f => prx (flp (S 0 1) (agS S age)) (sty (S 0 1) (agS S age)) f (S 0 0)) (2 ^ S 0 0) = sumN (fun f => prx (FL S age) (SY S age) f (S 0 0)) (2 ^ S 0 0) := rfl
  omega
def mkL (τ : MM) (f : Nat → Int64) : MM := (τ.1, f)
theorem updL_s (f : Nat → Int64) (j : Nat) (x : Int64) : vp_updL f j x j = x := by simp [vp_updL]
theorem updL_n {f : Nat → Int64} {j i : Nat} {x : Int64} (h : i ≠ j) : vp_updL f j x i = f i := by simp [vp_updL, h]
def PV (fl sy : Nat → Nat) (g : Nat → Int64) (i x : Nat) : Prop := (∀ y, y < x → g y = lN (prx fl sy y (i + 1)) ∧ g (2 ^ i + y) = lN (prx fl sy (2 ^ i + y) (i + 1))) ∧ (∀ y, x ≤ y → y < 2 ^ i → g y = lN (prx fl sy y i))
theorem PV.ini {fl sy : Nat → Nat} {g : Nat → Int64} {i : Nat} (h : ∀ y, y < 2 ^ i → g y = lN (prx fl sy y i)) : PV fl sy g i 0 := ⟨fun y hy => absurd hy (by omega), fun y _ hy => h y hy⟩
theorem PV.fin {fl sy : Nat → Nat} {g : Nat → Int64} {i x : Nat} (h : PV fl sy g i x) (hx : x = 2 ^ i) : ∀ y, y < 2 ^ (i + 1) → g y = lN (prx fl sy y (i + 1)) := by
  subst hx
  intro y hy
  rw [Nat.pow_succ] at hy
  by_cases q : y < 2 ^ i
  · exact (h.1 y q).1
  · obtain ⟨z, rfl⟩ : ∃ z, y = 2 ^ i + z := ⟨y - 2 ^ i, by omega⟩
    exact (h.1 z (by omega)).2
theorem PV.out {fl sy : Nat → Nat} {g : Nat → Int64} {i x : Nat} (h : PV fl sy g i x) (hx : x < 2 ^ i) (hf : fl i = 0) (hs : sy i = 1) : PV fl sy (vp_updL g (2 ^ i + x) (lN 0)) i (x + 1) := by
  refine ⟨fun y hy => ?_, fun y h1 h2 => ?_⟩
  · rcases Nat.lt_succ_iff_lt_or_eq.mp hy with q | q
    · rw [updL_n (by omega), updL_n (by omega)]; exact h.1 y q
    · subst q
      rw [updL_n (by omega), updL_s, prx_low hx, prx_add hx, hf, hs, Nat.mul_zero, Nat.mul_one]
      exact ⟨h.2 y (Nat.le_refl _) hx, rfl⟩
  · rw [updL_n (by omega)]; exact h.2 y (by omega) h2
theorem PV.inn {fl sy : Nat → Nat} {g : Nat → Int64} {i x p q : Nat} (h : PV fl sy g i x) (hx : x < 2 ^ i) (hf : p = fl i) (hs : q = sy i) : PV fl sy (vp_updL (vp_updL g (2 ^ i + x) (lN (prx fl sy x i * p))) x (lN (prx fl sy x i * q))) i (x + 1) := by
  subst hf hs
  refine ⟨fun y hy => ?_, fun y h1 h2 => ?_⟩
  · rcases Nat.lt_succ_iff_lt_or_eq.mp hy with q | q
    · rw [updL_n (by omega), updL_n (by omega), updL_n (by omega), updL_n (by omega)]; exact h.1 y q
    · subst q
      rw [updL_s, updL_n (by omega), updL_s, prx_low hx, prx_add hx]
      exact ⟨rfl, rfl⟩
  · rw [updL_n (by omega), updL_n (by omega)]; exact h.2 y (by omega) h2
theorem cof_le (S : SS) (age i : Nat) : cof S age i ≤ 4 := by unfold cof; split; omega; exact agS_le S age i

set_option maxHeartbeats 4000000 in
set_option maxRecDepth 100000 in
theorem c_X6_failOf {l : Launch} {D : va_G} {c : Nat → ClassId} {b : Nat → Nat} {τ : MM} {x : Nat} {age : Nat} {S : SS} (hI : MI τ S) (hV : SV S) (hx : x < S 0 3) (hhp : S 6 x = 1) (hage : age ≤ 40) : KL l D (tyE c) (mw c b) yX6_failOf cX6_failOf 8 (rmL 4) [.ref (b 0), .int (nI x), .int (nI age)] τ (fun r u => r = lN (failS S (S 8 x) age) ∧ MI u S ∧ u.1 0 4 = τ.1 0 4) := by
  refine x_enterL (by decide) (Nat.le_of_ble_eq_true rfl) (fun F hl hD hn hRm hC hR => ?_)
  subst hl hD
  change XW F 0 0 (mw c b τ) [(0, .ref (b 0)), (1, .int (nI x)), (2, .int (nI age))] 0 []
  change FC F cX6_failOf RX6 (tyE c) at hC
  have hn1 := hV.n1
  have hn2 := hV.n2
  have hpn := hV.pn
  have hk6 := hV.k
  have hpk := hV.pk
  have hpk1 := SV.pk1 S
  have hch8 := hV.chips
  have hmk := hV.mask
  have hmk31 : S 0 1 < 2 ^ 31 := by omega
  refine x_aload_n hC 0 rfl dX6_failOf_0 ?_
  refine x_callVV hC cw_X6_137 (c_X6_makes  (S := S) (by first | assumption | exact hI.mb | omega) (by first | assumption | exact hI.mb | omega)) dX6_failOf_1 [] rfl (Nat.le_of_ble_eq_true rfl) rfl (rm_ok hRm (by decide) (by decide)) 6 0 rfl rfl (fun m1 hp1 => ?_)
  obtain ⟨hM, hT, hth⟩ := hp1
  change XW F 0 0 (mw c b (mkL m1 m1.2)) [(0, .ref (b 0)), (1, .int (nI x)), (2, .int (nI age))] 4 []
  refine x_aload_n hC 0 rfl dX6_failOf_4 ?_
  refine x_get hC fl_X6_57 dX6_failOf_5 0 rfl rfl ?_
  refine x_iconst hC (v := (nI 0)) dX6_failOf_8 rfl ?_
  refine x_lconst hC (v := lN 1) dX6_failOf_9 rfl ?_
  refine x_last hC 15 2 rfl rfl (by decide) (by decide) (mw c b (mkL m1 (vp_updL (m1.2) 0 (lN 1)))) rfl dX6_failOf_10 ?_
  refine x_iconst hC (v := (nI 1)) dX6_failOf_11 rfl ?_
  refine x_istore_n hC [(3, .int (nI 1)), (0, .ref (b 0)), (1, .int (nI x)), (2, .int (nI age))] rfl (lt_n hn rfl) dX6_failOf_12 ?_
  refine x_iconst hC (v := (nI 0)) dX6_failOf_13 rfl ?_
  refine x_istore hC [(4, .int (nI 0)), (3, .int (nI 1)), (0, .ref (b 0)), (1, .int (nI x)), (2, .int (nI age))] rfl (lt_n hn rfl) dX6_failOf_14 ?_
  refine x_lv [2, 3, 4, 1, 0] rfl ?_
  have L16 : ∀ (N16 : Nat) (f : Nat → Int64) (i : Nat), S 0 0 - i < N16 → (i ≤ S 0 0) → (∀ y, y < 2 ^ i → f y = lN (prx (FL S age) (SY S age) y i)) → XW F 0 0 (mw c b (mkL m1 f)) [(0, .ref (b 0)), (1, .int (nI x)), (2, .int (nI age)), (3, .int (nI (2 ^ i))), (4, .int (nI i))] 16 [] := by
    intro N16
    induction N16 with
    | zero => intro f i hN16 hi hf; exact absurd hN16 (by omega)
    | succ N16 ih16 =>
      intro f i hN16 hi hf
      refine x_iload hC 4 rfl dX6_failOf_16 ?_
      refine x_aload_n hC 0 rfl dX6_failOf_18 ?_
      refine x_get hC fl_X6_44 dX6_failOf_19 0 rfl (v := .int (nI (S 0 0))) (xv hM.n) ?_
      refine x_icmp_geN hC 129 dX6_failOf_22 rfl (by omega) (by omega) (fun h22 => ?_) (fun h22 => ?_)
      · -- 22 T
        obtain rfl : i = S 0 0 := by omega
        have hky := ((hV.chip x hx).2.2 hhp).2.2
        change XW F 0 0 (mw c b (mkL m1 f)) [(0, .ref (b 0)), (1, .int (nI x)), (2, .int (nI age)), (3, .int (nI (2 ^ S 0 0))), (4, .int (nI (S 0 0)))] 129 []
        refine x_aload_n hC 0 rfl dX6_failOf_129 ?_
        refine x_get hC fl_X6_51 dX6_failOf_130 0 rfl rfl ?_
        refine x_aload_n hC 0 rfl dX6_failOf_133 ?_
        refine x_get hC fl_X6_28 dX6_failOf_134 0 rfl rfl ?_
        refine x_iload_n hC 1 rfl dX6_failOf_137 ?_
        refine x_iald hC 7 0 rfl rfl (y := (nI (S 8 x))) (by omega) (by decide) (((hM.chip x hx).2.2 hhp).2) dX6_failOf_138 ?_
        refine x_iald hC 13 0 rfl rfl (y := (nI (cw S (S 8 x)))) (by omega) (by decide) (hT.2 (S 8 x) (by omega)) dX6_failOf_139 ?_
        refine x_istore hC [(4, .int (nI (cw S (S 8 x)))), (0, .ref (b 0)), (1, .int (nI x)), (2, .int (nI age)), (3, .int (nI (2 ^ S 0 0)))] rfl (lt_n hn rfl) dX6_failOf_140 ?_
        refine x_lconst hC (v := lN 0) dX6_failOf_142 rfl ?_
        refine x_lstore hC [(5, .long (lN 0)), (4, .int (nI (cw S (S 8 x)))), (0, .ref (b 0)), (1, .int (nI x)), (2, .int (nI age)), (3, .int (nI (2 ^ S 0 0)))] rfl (lt_n hn rfl) dX6_failOf_143 ?_
        refine x_iconst hC (v := (nI 0)) dX6_failOf_145 rfl ?_
        refine x_istore hC [(7, .int (nI 0)), (5, .long (lN 0)), (4, .int (nI (cw S (S 8 x)))), (0, .ref (b 0)), (1, .int (nI x)), (2, .int (nI age)), (3, .int (nI (2 ^ S 0 0)))] rfl (lt_n hn rfl) dX6_failOf_146 ?_
        refine x_lv [3, 4, 6, 2, 1, 0] rfl ?_
        have L148 : ∀ (N148 : Nat) (s : Nat) (y : Nat), 2 ^ S 0 0 - y < N148 → (y ≤ 2 ^ S 0 0) → (s = msm S (S 8 x) age y) → XW F 0 0 (mw c b (mkL m1 f)) [(0, .ref (b 0)), (1, .int (nI x)), (3, .int (nI (2 ^ S 0 0))), (4, .int (nI (cw S (S 8 x)))), (5, .long (lN s)), (7, .int (nI y))] 148 [] := by
          intro N148
          induction N148 with
          | zero => intro s y hN148 hy hs; exact absurd hN148 (by omega)
          | succ N148 ih148 =>
            intro s y hN148 hy hs
            refine x_iload hC 5 rfl dX6_failOf_148 ?_
            refine x_iload_n hC 2 rfl dX6_failOf_150 ?_
            refine x_icmp_geN hC 191 dX6_failOf_151 rfl (by omega) (by omega) (fun h151 => ?_) (fun h151 => ?_)
            · -- 151 T
              refine x_lload hC 4 rfl dX6_failOf_191 ?_
              exact x_lret hC hR dX6_failOf_193 (⟨by rw [hs, show y = 2 ^ S 0 0 by omega, msm_fail hV hky], hM, hth⟩)
            · -- 151 F
              have hxl : cw S (S 8 x) ^^^ y < 2 ^ S 0 0 := Nat.xor_lt_two_pow (cw_ltn hV _) h151
              have hml := mend_lt S (cw S (S 8 x) ^^^ y)
              refine x_aload_n hC 0 rfl dX6_failOf_154 ?_
              refine x_get hC fl_X6_48 dX6_failOf_155 0 rfl rfl ?_
              refine x_iload hC 3 rfl dX6_failOf_158 ?_
              refine x_iload hC 5 rfl dX6_failOf_160 ?_
              refine x_ixorE hC (z := (nI ((cw S (S 8 x)) ^^^ y))) (nI_xor _ _) dX6_failOf_162 ?_
              refine x_iald hC 12 0 rfl rfl (y := (nI (mend S ((cw S (S 8 x)) ^^^ y)))) (by omega) (by decide) ((hT.1 ((cw S (S 8 x)) ^^^ y) (by omega)).1) dX6_failOf_163 ?_
              refine x_aload_n hC 0 rfl dX6_failOf_164 ?_
              refine x_get hC fl_X6_28 dX6_failOf_165 0 rfl rfl ?_
              refine x_iload_n hC 1 rfl dX6_failOf_168 ?_
              refine x_iald hC 7 0 rfl rfl (y := (nI (S 8 x))) (by omega) (by decide) (((hM.chip x hx).2.2 hhp).2) dX6_failOf_169 ?_
              refine x_icmp_eqN hC 185 dX6_failOf_170 rfl (by omega) (by omega) (fun h170 => ?_) (fun h170 => ?_)
              · -- 170 T
                refine x_iinc hC (z := 1) (v := (nI (y + 1))) 5 rfl (nI_add y 1) [(7, .int (nI (y + 1))), (0, .ref (b 0)), (1, .int (nI x)), (3, .int (nI (2 ^ S 0 0))), (4, .int (nI (cw S (S 8 x)))), (5, .long (lN s))] rfl (lt_n hn rfl) dX6_failOf_185 ?_
                refine x_goto hC 148 dX6_failOf_188 rfl ?_
                refine x_lv [1, 2, 3, 4, 5, 0] rfl ?_
                exact ih148 s (y + 1) (by omega) (by omega) (by rw [hs]; show _ = msm S (S 8 x) age y + (if _ then _ else _); rw [if_pos h170, Nat.add_zero])
              · -- 170 F
                refine x_lload hC 4 rfl dX6_failOf_173 ?_
                refine x_aload_n hC 0 rfl dX6_failOf_175 ?_
                refine x_get hC fl_X6_57 dX6_failOf_176 0 rfl rfl ?_
                refine x_iload hC 5 rfl dX6_failOf_179 ?_
                refine x_lald hC 15 2 rfl rfl (y := (lN (prx (FL S age) (SY S age) y (S 0 0)))) (by omega) (by decide) (hf y (by omega)) dX6_failOf_181 ?_
                refine x_laddE hC (z := (lN (s + (prx (FL S age) (SY S age) y (S 0 0))))) (lN_add _ _) dX6_failOf_182 ?_
                refine x_lstore hC [(5, .long (lN (s + (prx (FL S age) (SY S age) y (S 0 0))))), (0, .ref (b 0)), (1, .int (nI x)), (3, .int (nI (2 ^ S 0 0))), (4, .int (nI (cw S (S 8 x)))), (7, .int (nI y))] rfl (lt_n hn rfl) dX6_failOf_183 ?_
                refine x_iinc hC (z := 1) (v := (nI (y + 1))) 5 rfl (nI_add y 1) [(7, .int (nI (y + 1))), (5, .long (lN (s + (prx (FL S age) (SY S age) y (S 0 0))))), (0, .ref (b 0)), (1, .int (nI x)), (3, .int (nI (2 ^ S 0 0))), (4, .int (nI (cw S (S 8 x))))] rfl (lt_n hn rfl) dX6_failOf_185 ?_
                refine x_goto hC 148 dX6_failOf_188 rfl ?_
                refine x_lv [2, 3, 4, 5, 1, 0] rfl ?_
                exact ih148 (s + (prx (FL S age) (SY S age) y (S 0 0))) (y + 1) (by omega) (by omega) (by rw [hs]; show _ = msm S (S 8 x) age y + (if _ then _ else _); rw [if_neg h170])
        exact L148 _ 0 0 (Nat.lt_succ_self _) (by omega) rfl
      · -- 22 F
        have h2i : 2 ^ i ≤ 8192 := show 2 ^ i ≤ 2 ^ 13 from Nat.pow_le_pow_right (by decide) (by omega)
        refine x_aload_n hC 0 rfl dX6_failOf_25 ?_
        refine x_iload hC 4 rfl dX6_failOf_26 ?_
        refine x_iload_n hC 2 rfl dX6_failOf_28 ?_
        refine x_callVI hC cw_X6_117 (c_X6_chanceOf (i := i) (age := age) (S := S) hM hV (by omega) hage) dX6_failOf_29 [] rfl (Nat.le_of_ble_eq_true rfl) rfl (rm_ok hRm (by decide) (by decide)) 6 0 rfl rfl (fun r29 m29 hp29 => ?_)
        obtain ⟨rfl, rfl⟩ := hp29
        refine x_istore hC [(5, .int (nI (cof S age i))), (0, .ref (b 0)), (1, .int (nI x)), (2, .int (nI age)), (3, .int (nI (2 ^ i))), (4, .int (nI i))] rfl (lt_n hn rfl) dX6_failOf_32 ?_
        refine x_aload_n hC 1 rfl dX6_failOf_34 ?_
        refine x_get hC fl_X6_77 dX6_failOf_35 0 rfl (v := .int (nI (S 0 1))) (xv hM.mask) ?_
        refine x_iload hC 5 rfl dX6_failOf_38 ?_
        refine x_ishrE hC (z := (nI ((S 0 1) / 2 ^ i))) (nI_shr (by omega) (by omega)) dX6_failOf_40 ?_
        refine x_iconst hC (v := (nI 1)) dX6_failOf_41 rfl ?_
        refine x_iandE hC (z := (nI (bt (S 0 1) i))) (nI_and1 _) dX6_failOf_42 ?_
        refine x_iconst hC (v := (nI 1)) dX6_failOf_43 rfl ?_
        refine x_icmp_neN hC 51 dX6_failOf_44 rfl (by have := bt_lt (S 0 1) i; omega) (by decide) (fun h44 => ?_) (fun h44 => ?_)
        · -- 44 T
          refine x_iconst hC (v := (nI 0)) dX6_failOf_51 rfl ?_
          refine x_istore hC [(6, .int (nI 0)), (5, .int (nI (cof S age i))), (0, .ref (b 0)), (1, .int (nI x)), (2, .int (nI age)), (3, .int (nI (2 ^ i))), (4, .int (nI i))] rfl (lt_n hn rfl) dX6_failOf_52 ?_
          refine x_iconst hC (v := (nI 0)) dX6_failOf_54 rfl ?_
          refine x_istore hC [(7, .int (nI 0)), (6, .int (nI 0)), (5, .int (nI (cof S age i))), (0, .ref (b 0)), (1, .int (nI x)), (2, .int (nI age)), (3, .int (nI (2 ^ i))), (4, .int (nI i))] rfl (lt_n hn rfl) dX6_failOf_55 ?_
          refine x_lv [3, 4, 5, 6, 7, 2, 1, 0] rfl ?_
          have L57 : ∀ (N57 : Nat) (g : Nat → Int64) (ot : Bool) (x9 : Nat), 2 ^ i - x9 < N57 → (x9 ≤ 2 ^ i) → (ot = decide (bt (S 0 1) i = 1)) → (PV (FL S age) (SY S age) g i x9) → XW F 0 0 (mw c b (mkL m1 g)) [(0, .ref (b 0)), (1, .int (nI x)), (2, .int (nI age)), (3, .int (nI (2 ^ i))), (4, .int (nI i)), (5, .int (nI (cof S age i))), (6, .int (bz ot)), (7, .int (nI x9))] 57 [] := by
            intro N57
            induction N57 with
            | zero => intro g ot x9 hN57 hx9 hot hg; exact absurd hN57 (by omega)
            | succ N57 ih57 =>
              intro g ot x9 hN57 hx9 hot hg
              refine x_iload hC 7 rfl dX6_failOf_57 ?_
              refine x_iload_n hC 3 rfl dX6_failOf_59 ?_
              refine x_icmp_geN hC 119 dX6_failOf_60 rfl (by omega) (by omega) (fun h60 => ?_) (fun h60 => ?_)
              · -- 60 T
                refine x_iload_n hC 3 rfl dX6_failOf_119 ?_
                refine x_iconst hC (v := (nI 2)) dX6_failOf_120 rfl ?_
                refine x_imulE hC (z := (nI (2 ^ (i + 1)))) ((pk_mul _ _).trans (congrArg nI (Nat.pow_succ 2 i).symm)) dX6_failOf_121 ?_
                refine x_istore_n hC [(3, .int (nI (2 ^ (i + 1)))), (0, .ref (b 0)), (1, .int (nI x)), (2, .int (nI age)), (4, .int (nI i)), (5, .int (nI (cof S age i))), (6, .int (bz ot)), (7, .int (nI x9))] rfl (lt_n hn rfl) dX6_failOf_122 ?_
                refine x_iinc hC (z := 1) (v := (nI (i + 1))) 4 rfl (nI_add i 1) [(4, .int (nI (i + 1))), (3, .int (nI (2 ^ (i + 1)))), (0, .ref (b 0)), (1, .int (nI x)), (2, .int (nI age)), (5, .int (nI (cof S age i))), (6, .int (bz ot)), (7, .int (nI x9))] rfl (lt_n hn rfl) dX6_failOf_123 ?_
                refine x_goto hC 16 dX6_failOf_126 rfl ?_
                refine x_lv [2, 3, 4, 1, 0] rfl ?_
                exact ih16 g (i + 1) (by omega) (by omega) (hg.fin (by omega))
              · -- 60 F
                have hco := cof_le S age i
                refine x_aload_n hC 0 rfl dX6_failOf_63 ?_
                refine x_get hC fl_X6_57 dX6_failOf_64 0 rfl rfl ?_
                refine x_iload hC 7 rfl dX6_failOf_67 ?_
                refine x_iload_n hC 3 rfl dX6_failOf_69 ?_
                refine x_iaddE hC (z := (nI (x9 + (2 ^ i)))) (nI_add _ _) dX6_failOf_70 ?_
                refine x_top (x := (nI (x9 + (2 ^ i)))) (y := (nI (2 ^ i + x9))) (congrArg nI (Nat.add_comm _ _)) ?_
                refine x_iload hC 6 rfl dX6_failOf_71 ?_
                refine x_if_eqB hC 80 dX6_failOf_73 rfl (fun h73 => ?_) (fun h73 => ?_)
                · -- 73 T
                  refine x_aload_n hC 0 rfl dX6_failOf_80 ?_
                  refine x_get hC fl_X6_57 dX6_failOf_81 0 rfl rfl ?_
                  refine x_iload hC 7 rfl dX6_failOf_84 ?_
                  refine x_lald hC 15 2 rfl rfl (y := (lN (prx (FL S age) (SY S age) x9 i))) (by omega) (by decide) (hg.2 x9 (Nat.le_refl _) (by omega)) dX6_failOf_86 ?_
                  refine x_iload hC 5 rfl dX6_failOf_87 ?_
                  refine x_i2l hC (v := (lN (cof S age i))) (nI_l (by omega)) dX6_failOf_89 ?_
                  refine x_lmulE hC (z := (lN ((prx (FL S age) (SY S age) x9 i) * (cof S age i)))) (lN_mul _ _) dX6_failOf_90 ?_
                  refine x_last hC 15 2 rfl rfl (by omega) (by decide) (mw c b (mkL m1 (vp_updL g (2 ^ i + x9) (lN ((prx (FL S age) (SY S age) x9 i) * (cof S age i)))))) rfl dX6_failOf_91 ?_
                  refine x_iload hC 6 rfl dX6_failOf_92 ?_
                  refine x_if_neB hC 113 dX6_failOf_94 rfl (fun h94 => ?_) (fun h94 => ?_)
                  · -- 94 T
                    exact absurd h94 (by rw [h73]; decide)
                  · -- 94 F
                    refine x_aload_n hC 0 rfl dX6_failOf_97 ?_
                    refine x_get hC fl_X6_57 dX6_failOf_98 0 rfl rfl ?_
                    refine x_iload hC 7 rfl dX6_failOf_101 ?_
                    refine x_dup2 hC rfl rfl dX6_failOf_103 ?_
                    refine x_lald hC 15 2 rfl rfl (y := (lN (prx (FL S age) (SY S age) x9 i))) (by omega) (by decide) ((updL_n (by omega)).trans (hg.2 x9 (Nat.le_refl _) (by omega))) dX6_failOf_104 ?_
                    refine x_bipush hC (v := (nI 8)) dX6_failOf_105 rfl ?_
                    refine x_iload hC 5 rfl dX6_failOf_107 ?_
                    refine x_isubE hC (z := (nI (8 - (cof S age i)))) (pk_sub (by omega)) dX6_failOf_109 ?_
                    refine x_i2l hC (v := (lN (8 - (cof S age i)))) (nI_l (by omega)) dX6_failOf_110 ?_
                    refine x_lmulE hC (z := (lN ((prx (FL S age) (SY S age) x9 i) * (8 - (cof S age i))))) (lN_mul _ _) dX6_failOf_111 ?_
                    refine x_last hC 15 2 rfl rfl (by omega) (by decide) (mw c b (mkL m1 (vp_updL (vp_updL g (2 ^ i + x9) (lN ((prx (FL S age) (SY S age) x9 i) * (cof S age i)))) x9 (lN ((prx (FL S age) (SY S age) x9 i) * (8 - (cof S age i))))))) rfl dX6_failOf_112 ?_
                    refine x_iinc hC (z := 1) (v := (nI (x9 + 1))) 7 rfl (nI_add x9 1) [(7, .int (nI (x9 + 1))), (0, .ref (b 0)), (1, .int (nI x)), (2, .int (nI age)), (3, .int (nI (2 ^ i))), (4, .int (nI i)), (5, .int (nI (cof S age i))), (6, .int (bz ot))] rfl (lt_n hn rfl) dX6_failOf_113 ?_
                    refine x_goto hC 57 dX6_failOf_116 rfl ?_
                    refine x_lv [1, 2, 3, 4, 5, 6, 7, 0] rfl ?_
                    exact ih57 (vp_updL (vp_updL g (2 ^ i + x9) (lN ((prx (FL S age) (SY S age) x9 i) * (cof S age i)))) x9 (lN ((prx (FL S age) (SY S age) x9 i) * (8 - (cof S age i))))) ot (x9 + 1) (by omega) (by omega) hot (hg.inn (by omega) rfl (by have z := of_decide_eq_false (hot.symm.trans h73); show 8 - cof S age i = sty _ _ i; unfold sty cof; rw [if_neg z, if_neg z]))
                · -- 73 F
                  refine x_lconst hC (v := lN 0) dX6_failOf_76 rfl ?_
                  refine x_goto hC 91 dX6_failOf_77 rfl ?_
                  refine x_last hC 15 2 rfl rfl (by omega) (by decide) (mw c b (mkL m1 (vp_updL g (2 ^ i + x9) (lN 0)))) rfl dX6_failOf_91 ?_
                  refine x_iload hC 6 rfl dX6_failOf_92 ?_
                  refine x_if_neB hC 113 dX6_failOf_94 rfl (fun h94 => ?_) (fun h94 => ?_)
                  · -- 94 T
                    refine x_iinc hC (z := 1) (v := (nI (x9 + 1))) 7 rfl (nI_add x9 1) [(7, .int (nI (x9 + 1))), (0, .ref (b 0)), (1, .int (nI x)), (2, .int (nI age)), (3, .int (nI (2 ^ i))), (4, .int (nI i)), (5, .int (nI (cof S age i))), (6, .int (bz ot))] rfl (lt_n hn rfl) dX6_failOf_113 ?_
                    refine x_goto hC 57 dX6_failOf_116 rfl ?_
                    refine x_lv [1, 2, 3, 4, 5, 6, 7, 0] rfl ?_
                    exact ih57 (vp_updL g (2 ^ i + x9) (lN 0)) ot (x9 + 1) (by omega) (by omega) hot (hg.out (by omega) (show flp _ _ i = 0 by unfold flp; rw [if_pos (of_decide_eq_true (hot.symm.trans h73))]) (show sty _ _ i = 1 by unfold sty; rw [if_pos (of_decide_eq_true (hot.symm.trans h73))]))
                  · -- 94 F
                    exact absurd h94 (by rw [h73]; decide)
          exact L57 _ f false 0 (Nat.lt_succ_self _) (Nat.zero_le _) (by simp [h44]) (PV.ini hf)
        · -- 44 F
          refine x_iconst hC (v := (nI 1)) dX6_failOf_47 rfl ?_
          refine x_goto hC 52 dX6_failOf_48 rfl ?_
          refine x_istore hC [(6, .int (nI 1)), (5, .int (nI (cof S age i))), (0, .ref (b 0)), (1, .int (nI x)), (2, .int (nI age)), (3, .int (nI (2 ^ i))), (4, .int (nI i))] rfl (lt_n hn rfl) dX6_failOf_52 ?_
          refine x_iconst hC (v := (nI 0)) dX6_failOf_54 rfl ?_
          refine x_istore hC [(7, .int (nI 0)), (6, .int (nI 1)), (5, .int (nI (cof S age i))), (0, .ref (b 0)), (1, .int (nI x)), (2, .int (nI age)), (3, .int (nI (2 ^ i))), (4, .int (nI i))] rfl (lt_n hn rfl) dX6_failOf_55 ?_
          refine x_lv [3, 4, 5, 6, 7, 2, 1, 0] rfl ?_
          have L57 : ∀ (N57 : Nat) (g : Nat → Int64) (ot : Bool) (x9 : Nat), 2 ^ i - x9 < N57 → (x9 ≤ 2 ^ i) → (ot = decide (bt (S 0 1) i = 1)) → (PV (FL S age) (SY S age) g i x9) → XW F 0 0 (mw c b (mkL m1 g)) [(0, .ref (b 0)), (1, .int (nI x)), (2, .int (nI age)), (3, .int (nI (2 ^ i))), (4, .int (nI i)), (5, .int (nI (cof S age i))), (6, .int (bz ot)), (7, .int (nI x9))] 57 [] := by
            intro N57
            induction N57 with
            | zero => intro g ot x9 hN57 hx9 hot hg; exact absurd hN57 (by omega)
            | succ N57 ih57 =>
              intro g ot x9 hN57 hx9 hot hg
              refine x_iload hC 7 rfl dX6_failOf_57 ?_
              refine x_iload_n hC 3 rfl dX6_failOf_59 ?_
              refine x_icmp_geN hC 119 dX6_failOf_60 rfl (by omega) (by omega) (fun h60 => ?_) (fun h60 => ?_)
              · -- 60 T
                refine x_iload_n hC 3 rfl dX6_failOf_119 ?_
                refine x_iconst hC (v := (nI 2)) dX6_failOf_120 rfl ?_
                refine x_imulE hC (z := (nI (2 ^ (i + 1)))) ((pk_mul _ _).trans (congrArg nI (Nat.pow_succ 2 i).symm)) dX6_failOf_121 ?_
                refine x_istore_n hC [(3, .int (nI (2 ^ (i + 1)))), (0, .ref (b 0)), (1, .int (nI x)), (2, .int (nI age)), (4, .int (nI i)), (5, .int (nI (cof S age i))), (6, .int (bz ot)), (7, .int (nI x9))] rfl (lt_n hn rfl) dX6_failOf_122 ?_
                refine x_iinc hC (z := 1) (v := (nI (i + 1))) 4 rfl (nI_add i 1) [(4, .int (nI (i + 1))), (3, .int (nI (2 ^ (i + 1)))), (0, .ref (b 0)), (1, .int (nI x)), (2, .int (nI age)), (5, .int (nI (cof S age i))), (6, .int (bz ot)), (7, .int (nI x9))] rfl (lt_n hn rfl) dX6_failOf_123 ?_
                refine x_goto hC 16 dX6_failOf_126 rfl ?_
                refine x_lv [2, 3, 4, 1, 0] rfl ?_
                exact ih16 g (i + 1) (by omega) (by omega) (hg.fin (by omega))
              · -- 60 F
                have hco := cof_le S age i
                refine x_aload_n hC 0 rfl dX6_failOf_63 ?_
                refine x_get hC fl_X6_57 dX6_failOf_64 0 rfl rfl ?_
                refine x_iload hC 7 rfl dX6_failOf_67 ?_
                refine x_iload_n hC 3 rfl dX6_failOf_69 ?_
                refine x_iaddE hC (z := (nI (x9 + (2 ^ i)))) (nI_add _ _) dX6_failOf_70 ?_
                refine x_top (x := (nI (x9 + (2 ^ i)))) (y := (nI (2 ^ i + x9))) (congrArg nI (Nat.add_comm _ _)) ?_
                refine x_iload hC 6 rfl dX6_failOf_71 ?_
                refine x_if_eqB hC 80 dX6_failOf_73 rfl (fun h73 => ?_) (fun h73 => ?_)
                · -- 73 T
                  refine x_aload_n hC 0 rfl dX6_failOf_80 ?_
                  refine x_get hC fl_X6_57 dX6_failOf_81 0 rfl rfl ?_
                  refine x_iload hC 7 rfl dX6_failOf_84 ?_
                  refine x_lald hC 15 2 rfl rfl (y := (lN (prx (FL S age) (SY S age) x9 i))) (by omega) (by decide) (hg.2 x9 (Nat.le_refl _) (by omega)) dX6_failOf_86 ?_
                  refine x_iload hC 5 rfl dX6_failOf_87 ?_
                  refine x_i2l hC (v := (lN (cof S age i))) (nI_l (by omega)) dX6_failOf_89 ?_
                  refine x_lmulE hC (z := (lN ((prx (FL S age) (SY S age) x9 i) * (cof S age i)))) (lN_mul _ _) dX6_failOf_90 ?_
                  refine x_last hC 15 2 rfl rfl (by omega) (by decide) (mw c b (mkL m1 (vp_updL g (2 ^ i + x9) (lN ((prx (FL S age) (SY S age) x9 i) * (cof S age i)))))) rfl dX6_failOf_91 ?_
                  refine x_iload hC 6 rfl dX6_failOf_92 ?_
                  refine x_if_neB hC 113 dX6_failOf_94 rfl (fun h94 => ?_) (fun h94 => ?_)
                  · -- 94 T
                    exact absurd h94 (by rw [h73]; decide)
                  · -- 94 F
                    refine x_aload_n hC 0 rfl dX6_failOf_97 ?_
                    refine x_get hC fl_X6_57 dX6_failOf_98 0 rfl rfl ?_
                    refine x_iload hC 7 rfl dX6_failOf_101 ?_
                    refine x_dup2 hC rfl rfl dX6_failOf_103 ?_
                    refine x_lald hC 15 2 rfl rfl (y := (lN (prx (FL S age) (SY S age) x9 i))) (by omega) (by decide) ((updL_n (by omega)).trans (hg.2 x9 (Nat.le_refl _) (by omega))) dX6_failOf_104 ?_
                    refine x_bipush hC (v := (nI 8)) dX6_failOf_105 rfl ?_
                    refine x_iload hC 5 rfl dX6_failOf_107 ?_
                    refine x_isubE hC (z := (nI (8 - (cof S age i)))) (pk_sub (by omega)) dX6_failOf_109 ?_
                    refine x_i2l hC (v := (lN (8 - (cof S age i)))) (nI_l (by omega)) dX6_failOf_110 ?_
                    refine x_lmulE hC (z := (lN ((prx (FL S age) (SY S age) x9 i) * (8 - (cof S age i))))) (lN_mul _ _) dX6_failOf_111 ?_
                    refine x_last hC 15 2 rfl rfl (by omega) (by decide) (mw c b (mkL m1 (vp_updL (vp_updL g (2 ^ i + x9) (lN ((prx (FL S age) (SY S age) x9 i) * (cof S age i)))) x9 (lN ((prx (FL S age) (SY S age) x9 i) * (8 - (cof S age i))))))) rfl dX6_failOf_112 ?_
                    refine x_iinc hC (z := 1) (v := (nI (x9 + 1))) 7 rfl (nI_add x9 1) [(7, .int (nI (x9 + 1))), (0, .ref (b 0)), (1, .int (nI x)), (2, .int (nI age)), (3, .int (nI (2 ^ i))), (4, .int (nI i)), (5, .int (nI (cof S age i))), (6, .int (bz ot))] rfl (lt_n hn rfl) dX6_failOf_113 ?_
                    refine x_goto hC 57 dX6_failOf_116 rfl ?_
                    refine x_lv [1, 2, 3, 4, 5, 6, 7, 0] rfl ?_
                    exact ih57 (vp_updL (vp_updL g (2 ^ i + x9) (lN ((prx (FL S age) (SY S age) x9 i) * (cof S age i)))) x9 (lN ((prx (FL S age) (SY S age) x9 i) * (8 - (cof S age i))))) ot (x9 + 1) (by omega) (by omega) hot (hg.inn (by omega) rfl (by have z := of_decide_eq_false (hot.symm.trans h73); show 8 - cof S age i = sty _ _ i; unfold sty cof; rw [if_neg z, if_neg z]))
                · -- 73 F
                  refine x_lconst hC (v := lN 0) dX6_failOf_76 rfl ?_
                  refine x_goto hC 91 dX6_failOf_77 rfl ?_
                  refine x_last hC 15 2 rfl rfl (by omega) (by decide) (mw c b (mkL m1 (vp_updL g (2 ^ i + x9) (lN 0)))) rfl dX6_failOf_91 ?_
                  refine x_iload hC 6 rfl dX6_failOf_92 ?_
                  refine x_if_neB hC 113 dX6_failOf_94 rfl (fun h94 => ?_) (fun h94 => ?_)
                  · -- 94 T
                    refine x_iinc hC (z := 1) (v := (nI (x9 + 1))) 7 rfl (nI_add x9 1) [(7, .int (nI (x9 + 1))), (0, .ref (b 0)), (1, .int (nI x)), (2, .int (nI age)), (3, .int (nI (2 ^ i))), (4, .int (nI i)), (5, .int (nI (cof S age i))), (6, .int (bz ot))] rfl (lt_n hn rfl) dX6_failOf_113 ?_
                    refine x_goto hC 57 dX6_failOf_116 rfl ?_
                    refine x_lv [1, 2, 3, 4, 5, 6, 7, 0] rfl ?_
                    exact ih57 (vp_updL g (2 ^ i + x9) (lN 0)) ot (x9 + 1) (by omega) (by omega) hot (hg.out (by omega) (show flp _ _ i = 0 by unfold flp; rw [if_pos (of_decide_eq_true (hot.symm.trans h73))]) (show sty _ _ i = 1 by unfold sty; rw [if_pos (of_decide_eq_true (hot.symm.trans h73))]))
                  · -- 94 F
                    exact absurd h94 (by rw [h73]; decide)
          exact L57 _ f true 0 (Nat.lt_succ_self _) (Nat.zero_le _) (by simp [h44]) (PV.ini hf)
  exact L16 _ (vp_updL m1.2 0 (lN 1)) 0 (Nat.lt_succ_self _) (by omega) (fun y hy => by have e : y = 0 := (by simpa using hy); subst e; exact updL_s _ _ _)
set_option maxHeartbeats 4000000 in
set_option maxRecDepth 100000 in
theorem c_X6_thrown {l : Launch} {D : va_G} {c : Nat → ClassId} {b : Nat → Nat} {τ : MM} {e : Int32} (he : τ.1 0 4 = e)  : KI l D (tyE c) (mw c b) yX6_thrown cX6_thrown 1 .int (rmL 1) [.ref (b 0)] τ (fun r u => r = e ∧ τ = u) := by
  refine x_enterI (by decide) (Nat.le_of_ble_eq_true rfl) (fun F hl hD hn hRm hC hR => ?_)
  subst hl hD
  change XW F 0 0 (mw c b τ) [(0, .ref (b 0))] 0 []
  change FC F cX6_thrown RX6 (tyE c) at hC
  refine x_aload_n hC 0 rfl dX6_thrown_0 ?_
  refine x_get hC fl_X6_70 dX6_thrown_1 0 rfl (v := .int e) (xv he) ?_
  exact x_iret hC hR dX6_thrown_4 (⟨rfl, rfl⟩)
set_option maxHeartbeats 4000000 in
set_option maxRecDepth 100000 in
theorem c_X6_raises {l : Launch} {D : va_G} {c : Nat → ClassId} {b : Nat → Nat} {τ : MM} {j : Nat}   : KI l D (tyE c) (mw c b) yX6_raises cX6_raises 2 .int (rmL 1) [.ref (b 0), .int (nI j)] τ (fun r u => r = nI 0 ∧ u = mup τ 0 4 (nI j)) := by
  refine x_enterI (by decide) (Nat.le_of_ble_eq_true rfl) (fun F hl hD hn hRm hC hR => ?_)
  subst hl hD
  change XW F 0 0 (mw c b τ) [(0, .ref (b 0)), (1, .int (nI j))] 0 []
  change FC F cX6_raises RX6 (tyE c) at hC
  refine x_aload_n hC 0 rfl dX6_raises_0 ?_
  refine x_iload_n hC 1 rfl dX6_raises_1 ?_
  refine x_put hC fp_X6_70 dX6_raises_2 0 rfl rfl rfl (Nat.le_of_ble_eq_true rfl) (mw c b (mup τ 0 4 (nI j))) rfl ?_
  refine x_iconst hC (v := (nI 0)) dX6_raises_5 rfl ?_
  exact x_iret hC hR dX6_raises_6 (⟨rfl, rfl⟩)
set_option maxHeartbeats 4000000 in
set_option maxRecDepth 100000 in
theorem c_X6_fail {l : Launch} {D : va_G} {c : Nat → ClassId} {b : Nat → Nat} {τ : MM} {x : Int32} {age : Int32} {S : SS} (hI : MI τ S) (hV : SV S)  : KL l D (tyE c) (mw c b) yX6_fail cX6_fail 3 (rmL 5) [.ref (b 0), .int x, .int age] τ (fun r u => r = lN (sp_fail S x age).2 ∧ MI u S ∧ u.1 0 4 = nI (sp_fail S x age).1) := by
  refine x_enterL (by decide) (Nat.le_of_ble_eq_true rfl) (fun F hl hD hn hRm hC hR => ?_)
  subst hl hD
  change XW F 0 0 (mw c b τ) [(0, .ref (b 0)), (1, .int x), (2, .int age)] 0 []
  change FC F cX6_fail RX6 (tyE c) at hC
  have hn1 := hV.n1
  have hn2 := hV.n2
  have hpn := hV.pn
  have hk6 := hV.k
  have hpk := hV.pk
  have hpk1 := SV.pk1 S
  have hch8 := hV.chips
  have hmk := hV.mask
  have hmk31 : S 0 1 < 2 ^ 31 := by omega
  refine x_aload_n hC 0 rfl dX6_fail_0 ?_
  refine x_iconst hC (v := (nI 0)) dX6_fail_1 rfl ?_
  refine x_put hC fp_X6_70 dX6_fail_2 0 rfl rfl rfl (Nat.le_of_ble_eq_true rfl) (mw c b (mup τ 0 4 (nI 0))) rfl ?_
  refine x_aload_n hC 0 rfl dX6_fail_5 ?_
  refine x_iload_n hC 1 rfl dX6_fail_6 ?_
  refine x_callVI hC cw_X6_140 (c_X6_isChip (x := x) (S := S) (hI.thr (nI 0)) hV) dX6_fail_7 [] rfl (Nat.le_of_ble_eq_true rfl) rfl (rm_ok hRm (by decide) (by decide)) 6 0 rfl rfl (fun r7 m7 hp7 => ?_)
  obtain ⟨rfl, rfl⟩ := hp7
  refine x_if_eqB hC 22 dX6_fail_10 rfl (fun h10 => ?_) (fun h10 => ?_)
  · -- 10 T
    refine x_aload_n hC 0 rfl dX6_fail_22 ?_
    refine x_iconst hC (v := (nI 1)) dX6_fail_23 rfl ?_
    refine x_callVI hC cw_X6_143 (c_X6_raises (j := 1)  ) dX6_fail_24 [] rfl (Nat.le_of_ble_eq_true rfl) rfl (rm_ok hRm (by decide) (by decide)) 6 0 rfl rfl (fun r24 m24 hp24 => ?_)
    obtain ⟨rfl, rfl⟩ := hp24
    refine x_i2l hC (v := (lN 0)) (rfl) dX6_fail_27 ?_
    exact x_lret hC hR dX6_fail_28 (⟨by simp [sp_fail, h10], (hI.thr (nI 0)).thr _, by simp [sp_fail, h10]; rfl⟩)
  · -- 10 F
    obtain ⟨v, hv, rfl⟩ := isI_T h10
    have tv := tn_nI (v := v) (by omega)
    refine x_iload_n hC 2 rfl dX6_fail_13 ?_
    refine x_bipush hC (v := (nI 41)) dX6_fail_14 rfl ?_
    refine x_callN hC cs_X6_73 (c_X6_isIn (x := age) (m := 41)  (by first | assumption | exact hI.mb | omega)) dX6_fail_16 [] rfl (Nat.le_of_ble_eq_true rfl) rfl (rm_ok hRm (by decide) (by decide)) ?_
    refine x_if_neB hC 29 dX6_fail_19 rfl (fun h19 => ?_) (fun h19 => ?_)
    · -- 19 T
      obtain ⟨y, hy, rfl⟩ := isI_T h19
      have ty := tn_nI (v := y) (by omega)
      refine x_aload_n hC 0 rfl dX6_fail_29 ?_
      refine x_get hC fl_X6_37 dX6_fail_30 0 rfl rfl ?_
      refine x_iload_n hC 1 rfl dX6_fail_33 ?_
      refine x_zald hC 10 1 rfl rfl (y := (bz (decide (S 6 v = 1)))) (by omega) (by decide) ((hI.chip v (by omega)).2.1) dX6_fail_34 ?_
      refine x_if_neB hC 45 dX6_fail_35 rfl (fun h35 => ?_) (fun h35 => ?_)
      · -- 35 T
        have hhp := of_decide_eq_true h35
        refine x_aload_n hC 0 rfl dX6_fail_45 ?_
        refine x_iload_n hC 1 rfl dX6_fail_46 ?_
        refine x_iload_n hC 2 rfl dX6_fail_47 ?_
        refine x_callVL hC cw_X6_146 (c_X6_failOf (x := v) (age := y) (S := S) (hI.thr (nI 0)) hV hv hhp (by omega)) dX6_fail_48 [] rfl (Nat.le_of_ble_eq_true rfl) rfl (rm_ok hRm (by decide) (by decide)) 6 0 rfl rfl (fun r48 m48 hp48 => ?_)
        obtain ⟨rfl, hM, hth⟩ := hp48
        exact x_lret hC hR dX6_fail_51 (⟨by simp [sp_fail, h10, h19, hhp, tv, ty], hM, by rw [hth]; simp [sp_fail, h10, h19, hhp, tv, ty]; rfl⟩)
      · -- 35 F
        have hhp := of_decide_eq_false h35
        refine x_aload_n hC 0 rfl dX6_fail_38 ?_
        refine x_iconst hC (v := (nI 2)) dX6_fail_39 rfl ?_
        refine x_callVI hC cw_X6_143 (c_X6_raises (j := 2)  ) dX6_fail_40 [] rfl (Nat.le_of_ble_eq_true rfl) rfl (rm_ok hRm (by decide) (by decide)) 6 0 rfl rfl (fun r40 m40 hp40 => ?_)
        obtain ⟨rfl, rfl⟩ := hp40
        refine x_i2l hC (v := (lN 0)) (rfl) dX6_fail_43 ?_
        exact x_lret hC hR dX6_fail_44 (⟨by simp [sp_fail, h10, h19, hhp, tv, ty], (hI.thr (nI 0)).thr _, by simp [sp_fail, h10, h19, hhp, tv, ty]; rfl⟩)
    · -- 19 F
      refine x_aload_n hC 0 rfl dX6_fail_22 ?_
      refine x_iconst hC (v := (nI 1)) dX6_fail_23 rfl ?_
      refine x_callVI hC cw_X6_143 (c_X6_raises (j := 1)  ) dX6_fail_24 [] rfl (Nat.le_of_ble_eq_true rfl) rfl (rm_ok hRm (by decide) (by decide)) 6 0 rfl rfl (fun r24 m24 hp24 => ?_)
      obtain ⟨rfl, rfl⟩ := hp24
      refine x_i2l hC (v := (lN 0)) (rfl) dX6_fail_27 ?_
      exact x_lret hC hR dX6_fail_28 (⟨by simp [sp_fail, h10, h19, tv], (hI.thr (nI 0)).thr _, by simp [sp_fail, h10, h19, tv]; rfl⟩)
set_option maxHeartbeats 4000000 in
set_option maxRecDepth 100000 in
theorem c_X6_lasts {l : Launch} {D : va_G} {c : Nat → ClassId} {b : Nat → Nat} {τ : MM} {x : Int32} {e : Int32} {S : SS} (hI : MI τ S) (hV : SV S)  : KI l D (tyE c) (mw c b) yX6_lasts cX6_lasts 5 .int (rmL 5) [.ref (b 0), .int x, .int e] τ (fun r u => r = (sp_lasts S x e).1 ∧ MI u (sp_lasts S x e).2) := by
  refine x_enterI (by decide) (Nat.le_of_ble_eq_true rfl) (fun F hl hD hn hRm hC hR => ?_)
  subst hl hD
  change XW F 0 0 (mw c b τ) [(0, .ref (b 0)), (1, .int x), (2, .int e)] 0 []
  change FC F cX6_lasts RX6 (tyE c) at hC
  have hn1 := hV.n1
  have hn2 := hV.n2
  have hpn := hV.pn
  have hk6 := hV.k
  have hpk := hV.pk
  have hpk1 := SV.pk1 S
  have hch8 := hV.chips
  have hmk := hV.mask
  have hmk31 : S 0 1 < 2 ^ 31 := by omega
  refine x_aload_n hC 0 rfl dX6_lasts_0 ?_
  refine x_iload_n hC 1 rfl dX6_lasts_1 ?_
  refine x_callVI hC cw_X6_140 (c_X6_isChip (x := x) (S := S) (by first | assumption | exact hI.mb | omega) (by first | assumption | exact hI.mb | omega)) dX6_lasts_2 [] rfl (Nat.le_of_ble_eq_true rfl) rfl (rm_ok hRm (by decide) (by decide)) 6 0 rfl rfl (fun r2 m2 hp2 => ?_)
  obtain ⟨rfl, rfl⟩ := hp2
  refine x_if_neB hC 12 dX6_lasts_5 rfl (fun h5 => ?_) (fun h5 => ?_)
  · -- 5 T
    obtain ⟨v, hv, rfl⟩ := isI_T h5
    have tv := tn_nI (v := v) (by omega)
    refine x_aload_n hC 0 rfl dX6_lasts_12 ?_
    refine x_get hC fl_X6_37 dX6_lasts_13 0 rfl rfl ?_
    refine x_iload_n hC 1 rfl dX6_lasts_16 ?_
    refine x_zald hC 10 1 rfl rfl (y := (bz (decide (S 6 v = 1)))) (by omega) (by decide) ((hI.chip v (by omega)).2.1) dX6_lasts_17 ?_
    refine x_if_neB hC 26 dX6_lasts_18 rfl (fun h18 => ?_) (fun h18 => ?_)
    · -- 18 T
      have hhp := of_decide_eq_true h18
      refine x_iload_n hC 2 rfl dX6_lasts_26 ?_
      refine x_iconst hC (v := (nI 0)) dX6_lasts_27 rfl ?_
      refine x_bipush hC (v := (nI 8)) dX6_lasts_28 rfl ?_
      refine x_callN hC cs_X6_90 (c_X6_wrong (x := e) (lo := 0) (hi := 8)  ) dX6_lasts_30 [] rfl (Nat.le_of_ble_eq_true rfl) rfl (rm_ok hRm (by decide) (by decide)) ?_
      rcases wr3_cases e 0 8 (by omega) (by omega) with ⟨w1, we⟩ | ⟨w1, w2, we⟩ | ⟨w1, w2, we, y, hy1, hy2, rfl⟩
      · skip
        refine x_top we ?_
        refine x_istore_n hC [(3, .int (zI (-4))), (0, .ref (b 0)), (1, .int (nI v)), (2, .int e)] rfl (lt_n hn rfl) dX6_lasts_33 ?_
        refine x_iload_n hC 0 rfl dX6_lasts_34 ?_
        refine x_if_eq_F hC 44 dX6_lasts_35 rfl (by decide) ?_
        refine x_aload_n hC 1 rfl dX6_lasts_38 ?_
        refine x_iload_n hC 0 rfl dX6_lasts_39 ?_
        refine x_callVI hC cw_X6_94 (c_X6_refuse (z := (-4)) (j := 4) (v := (S 1 4)) (by decide) (by decide) (hI.ref 4 (by decide))) dX6_lasts_40 [] rfl (Nat.le_of_ble_eq_true rfl) rfl (rm_ok hRm (by decide) (by decide)) 6 0 rfl rfl (fun r40 m40 hp40 => ?_)
        obtain ⟨rfl, rfl⟩ := hp40
        exact x_iret hC hR dX6_lasts_43 (sp_leafM (by simp [sp_lasts, h5, hhp, tv, w1]) (hI.rfs 4 (by decide)))
      · skip
        refine x_top we ?_
        refine x_istore_n hC [(3, .int (zI (-6))), (0, .ref (b 0)), (1, .int (nI v)), (2, .int e)] rfl (lt_n hn rfl) dX6_lasts_33 ?_
        refine x_iload_n hC 0 rfl dX6_lasts_34 ?_
        refine x_if_eq_F hC 44 dX6_lasts_35 rfl (by decide) ?_
        refine x_aload_n hC 1 rfl dX6_lasts_38 ?_
        refine x_iload_n hC 0 rfl dX6_lasts_39 ?_
        refine x_callVI hC cw_X6_94 (c_X6_refuse (z := (-6)) (j := 6) (v := (S 1 6)) (by decide) (by decide) (hI.ref 6 (by decide))) dX6_lasts_40 [] rfl (Nat.le_of_ble_eq_true rfl) rfl (rm_ok hRm (by decide) (by decide)) 6 0 rfl rfl (fun r40 m40 hp40 => ?_)
        obtain ⟨rfl, rfl⟩ := hp40
        exact x_iret hC hR dX6_lasts_43 (sp_leafM (by simp [sp_lasts, h5, hhp, tv, w1, w2]) (hI.rfs 6 (by decide)))
      · skip
        refine x_top we ?_
        have ty := tn_nI (v := y) (by omega)
        refine x_istore_n hC [(3, .int (nI 0)), (0, .ref (b 0)), (1, .int (nI v)), (2, .int (nI y))] rfl (lt_n hn rfl) dX6_lasts_33 ?_
        refine x_iload_n hC 0 rfl dX6_lasts_34 ?_
        refine x_if_eq_T hC 44 dX6_lasts_35 rfl (by decide) ?_
        refine x_iconst hC (v := (nI 0)) dX6_lasts_44 rfl ?_
        refine x_istore hC [(4, .int (nI 0)), (3, .int (nI 0)), (0, .ref (b 0)), (1, .int (nI v)), (2, .int (nI y))] rfl (lt_n hn rfl) dX6_lasts_45 ?_
        refine x_lv [2, 3, 4, 0] rfl ?_
        have L47 : ∀ (N47 : Nat) (M : MM) (i : Nat), 41 - i < N47 → (i ≤ 41) → (MI M S) → (∀ j, j < i → abv S (S 8 v) y j = false) → XW F 0 0 (mw c b M) [(0, .ref (b 0)), (1, .int (nI v)), (2, .int (nI y)), (4, .int (nI i))] 47 [] := by
          intro N47
          induction N47 with
          | zero => intro M i hN47 hi hM hlo; exact absurd hN47 (by omega)
          | succ N47 ih47 =>
            intro M i hN47 hi hM hlo
            refine x_iload hC 3 rfl dX6_lasts_47 ?_
            refine x_bipush hC (v := (nI 40)) dX6_lasts_49 rfl ?_
            refine x_icmp_gtN hC 85 dX6_lasts_51 rfl (by omega) (by decide) (fun h51 => ?_) (fun h51 => ?_)
            · -- 51 T
              refine x_bipush hC (v := (zI (-9))) dX6_lasts_85 rfl ?_
              exact x_iret hC hR dX6_lasts_87 (sp_leafM (by simp only [sp_lasts, h5, hhp, w1, w2, tv, ty, if_true, if_false]; rw [show lastS S (S 8 v) y = 41 from ff_none (fun j hj => hlo j (by omega))]; rfl) hM)
            · -- 51 F
              have hfb := failS_b hV (S 8 v) i
              have hab := allS_b hV
              have hae : y * allS S ≤ 8 * 2 ^ 42 := Nat.mul_le_mul hy2 hab
              refine x_ldc2 hC cn_X6_154 dX6_lasts_54 ?_
              refine x_topl (show (8 : Int64) = lN 8 from rfl) ?_
              refine x_aload_n hC 0 rfl dX6_lasts_57 ?_
              refine x_iload_n hC 1 rfl dX6_lasts_58 ?_
              refine x_iload hC 3 rfl dX6_lasts_59 ?_
              refine x_callVL hC cw_X6_146 (c_X6_failOf (x := v) (age := i) (S := S) hM hV hv hhp (by omega)) dX6_lasts_61 [.long (lN 8)] rfl (Nat.le_of_ble_eq_true rfl) rfl (rm_ok hRm (by decide) (by decide)) 6 0 rfl rfl (fun r61 m61 hp61 => ?_)
              obtain ⟨rfl, hM2, hth⟩ := hp61
              refine x_lmulE hC (z := (lN (8 * (failS S (S 8 v) i)))) (lN_mul _ _) dX6_lasts_64 ?_
              refine x_iload_n hC 2 rfl dX6_lasts_65 ?_
              refine x_i2l hC (v := (lN y)) (nI_l (by omega)) dX6_lasts_66 ?_
              refine x_aload_n hC 0 rfl dX6_lasts_67 ?_
              refine x_callVL hC cw_X6_150 (c_X6_allOf  (S := S) hM2 hV) dX6_lasts_68 [.long (lN y), .long (lN (8 * (failS S (S 8 v) i)))] rfl (Nat.le_of_ble_eq_true rfl) rfl (rm_ok hRm (by decide) (by decide)) 6 0 rfl rfl (fun r68 m68 hp68 => ?_)
              obtain ⟨rfl, rfl⟩ := hp68
              refine x_lmulE hC (z := (lN (y * (allS S)))) (lN_mul _ _) dX6_lasts_71 ?_
              refine x_lcmp hC dX6_lasts_72 ?_
              refine x_if_le hC 79 dX6_lasts_73 rfl (fun h73 => ?_) (fun h73 => ?_)
              · -- 73 T
                have g73 : 8 * failS S (S 8 v) i ≤ y * allS S := lcmp_le (by omega) (by omega) h73
                refine x_iinc hC (z := 1) (v := (nI (i + 1))) 3 rfl (nI_add i 1) [(4, .int (nI (i + 1))), (0, .ref (b 0)), (1, .int (nI v)), (2, .int (nI y))] rfl (lt_n hn rfl) dX6_lasts_79 ?_
                refine x_goto hC 47 dX6_lasts_82 rfl ?_
                refine x_lv [1, 2, 3, 0] rfl ?_
                exact ih47 m61 (i + 1) (by omega) (by omega) hM2 (fun j hj => by rcases Nat.lt_succ_iff_lt_or_eq.mp hj with q | q; exact hlo j q; (rw [q]; exact decide_eq_false (by rw [Nat.mul_comm (allS S), Nat.mul_comm (failS S _ _)]; omega)))
              · -- 73 F
                have g73 : y * allS S < 8 * failS S (S 8 v) i := lcmp_gt (by omega) (by omega) h73
                refine x_iload hC 3 rfl dX6_lasts_76 ?_
                exact x_iret hC hR dX6_lasts_78 (sp_leafM (by simp only [sp_lasts, h5, hhp, w1, w2, tv, ty, if_true, if_false]; rw [show lastS S (S 8 v) y = i from by rw [lastS, show 41 = i + 1 + (40 - i) by omega]; exact ff_at hlo (decide_eq_true (by rw [Nat.mul_comm (allS S), Nat.mul_comm (failS S _ _)]; omega)), if_pos (by omega)]) hM2)
        exact L47 _ τ 0 (Nat.lt_succ_self _) (by omega) hI (fun j h => absurd h (by omega))
    · -- 18 F
      have hhp := of_decide_eq_false h18
      refine x_bipush hC (v := (zI (-3))) dX6_lasts_21 rfl ?_
      refine x_goto hC 33 dX6_lasts_23 rfl ?_
      refine x_istore_n hC [(3, .int (zI (-3))), (0, .ref (b 0)), (1, .int (nI v)), (2, .int e)] rfl (lt_n hn rfl) dX6_lasts_33 ?_
      refine x_iload_n hC 0 rfl dX6_lasts_34 ?_
      refine x_if_eq_F hC 44 dX6_lasts_35 rfl (by decide) ?_
      refine x_aload_n hC 1 rfl dX6_lasts_38 ?_
      refine x_iload_n hC 0 rfl dX6_lasts_39 ?_
      refine x_callVI hC cw_X6_94 (c_X6_refuse (z := (-3)) (j := 3) (v := (S 1 3)) (by decide) (by decide) (hI.ref 3 (by decide))) dX6_lasts_40 [] rfl (Nat.le_of_ble_eq_true rfl) rfl (rm_ok hRm (by decide) (by decide)) 6 0 rfl rfl (fun r40 m40 hp40 => ?_)
      obtain ⟨rfl, rfl⟩ := hp40
      exact x_iret hC hR dX6_lasts_43 (sp_leafM (by simp [sp_lasts, h5, hhp, tv]) (hI.rfs 3 (by decide)))
  · -- 5 F
    refine x_iconst hC (v := (zI (-1))) dX6_lasts_8 rfl ?_
    refine x_goto hC 33 dX6_lasts_9 rfl ?_
    refine x_istore_n hC [(3, .int (zI (-1))), (0, .ref (b 0)), (1, .int x), (2, .int e)] rfl (lt_n hn rfl) dX6_lasts_33 ?_
    refine x_iload_n hC 0 rfl dX6_lasts_34 ?_
    refine x_if_eq_F hC 44 dX6_lasts_35 rfl (by decide) ?_
    refine x_aload_n hC 1 rfl dX6_lasts_38 ?_
    refine x_iload_n hC 0 rfl dX6_lasts_39 ?_
    refine x_callVI hC cw_X6_94 (c_X6_refuse (z := (-1)) (j := 1) (v := (S 1 1)) (by decide) (by decide) (hI.ref 1 (by decide))) dX6_lasts_40 [] rfl (Nat.le_of_ble_eq_true rfl) rfl (rm_ok hRm (by decide) (by decide)) 6 0 rfl rfl (fun r40 m40 hp40 => ?_)
    obtain ⟨rfl, rfl⟩ := hp40
    exact x_iret hC hR dX6_lasts_43 (sp_leafM (by simp [sp_lasts, h5]) (hI.rfs 1 (by decide)))
set_option maxHeartbeats 4000000 in
set_option maxRecDepth 100000 in
theorem c_X6_weight {l : Launch} {D : va_G} {c : Nat → ClassId} {b : Nat → Nat} {τ : MM} {x : Int32} {t : Bool} {S : SS} (hI : MI τ S) (hV : SV S)  : KL l D (tyE c) (mw c b) yX6_weight cX6_weight 6 (rmL 3) [.ref (b 0), .int x, .int (bz t)] τ (fun r u => r = lN (sp_weight S x (bz t)).2 ∧ MI u S ∧ u.1 0 4 = nI (sp_weight S x (bz t)).1) := by
  refine x_enterL (by decide) (Nat.le_of_ble_eq_true rfl) (fun F hl hD hn hRm hC hR => ?_)
  subst hl hD
  change XW F 0 0 (mw c b τ) [(0, .ref (b 0)), (1, .int x), (2, .int (bz t))] 0 []
  change FC F cX6_weight RX6 (tyE c) at hC
  have hn1 := hV.n1
  have hn2 := hV.n2
  have hpn := hV.pn
  have hk6 := hV.k
  have hpk := hV.pk
  have hpk1 := SV.pk1 S
  have hch8 := hV.chips
  have hmk := hV.mask
  have hmk31 : S 0 1 < 2 ^ 31 := by omega
  refine x_aload_n hC 0 rfl dX6_weight_0 ?_
  refine x_iconst hC (v := (nI 0)) dX6_weight_1 rfl ?_
  refine x_put hC fp_X6_70 dX6_weight_2 0 rfl rfl rfl (Nat.le_of_ble_eq_true rfl) (mw c b (mup τ 0 4 (nI 0))) rfl ?_
  refine x_aload_n hC 0 rfl dX6_weight_5 ?_
  refine x_iload_n hC 1 rfl dX6_weight_6 ?_
  refine x_callVI hC cw_X6_104 (c_X6_isWord (x := x) (S := S) (hI.thr (nI 0)) hV) dX6_weight_7 [] rfl (Nat.le_of_ble_eq_true rfl) rfl (rm_ok hRm (by decide) (by decide)) 6 0 rfl rfl (fun r7 m7 hp7 => ?_)
  obtain ⟨rfl, rfl⟩ := hp7
  refine x_if_neB hC 20 dX6_weight_10 rfl (fun h10 => ?_) (fun h10 => ?_)
  · -- 10 T
    obtain ⟨v, hv, rfl⟩ := isI_T h10
    have tv := tn_nI (v := v) (by omega)
    refine x_iload_n hC 2 rfl dX6_weight_20 ?_
    refine x_if_neB hC 40 dX6_weight_21 rfl (fun h21 => ?_) (fun h21 => ?_)
    · -- 21 T
      refine x_lconst hC (v := lN 0) dX6_weight_40 rfl ?_
      refine x_lstore_n hC [(3, .long (lN 0)), (0, .ref (b 0)), (1, .int (nI v)), (2, .int (bz t))] rfl (lt_n hn rfl) dX6_weight_41 ?_
      refine x_iconst hC (v := (nI 0)) dX6_weight_42 rfl ?_
      refine x_istore hC [(5, .int (nI 0)), (3, .long (lN 0)), (0, .ref (b 0)), (1, .int (nI v)), (2, .int (bz t))] rfl (lt_n hn rfl) dX6_weight_43 ?_
      refine x_lv [2, 3, 1, 0] rfl ?_
      have L45 : ∀ (N45 : Nat) (s : Nat) (i : Nat), 2 ^ S 0 2 - i < N45 → (i ≤ 2 ^ S 0 2) → (s = sumN (fun key => wt S (v ^^^ cw S key)) i) → XW F 0 0 (mw c b (mup τ 0 4 (nI 0))) [(0, .ref (b 0)), (1, .int (nI v)), (3, .long (lN s)), (5, .int (nI i))] 45 [] := by
        intro N45
        induction N45 with
        | zero => intro s i hN45 hi hs; exact absurd hN45 (by omega)
        | succ N45 ih45 =>
          intro s i hN45 hi hs
          refine x_iload hC 3 rfl dX6_weight_45 ?_
          refine x_iconst hC (v := (nI 1)) dX6_weight_47 rfl ?_
          refine x_aload_n hC 0 rfl dX6_weight_48 ?_
          refine x_get hC fl_X6_80 dX6_weight_49 0 rfl (v := .int (nI (S 0 2))) (xv hI.k) ?_
          refine x_ishlE hC (z := (nI (2 ^ (S 0 2)))) (nI_shl1 (by omega)) dX6_weight_52 ?_
          refine x_icmp_geN hC 77 dX6_weight_53 rfl (by omega) (by omega) (fun h53 => ?_) (fun h53 => ?_)
          · -- 53 T
            refine x_lload_n hC 2 rfl dX6_weight_77 ?_
            exact x_lret hC hR dX6_weight_78 (⟨by simp only [sp_weight, h10, if_true, tv]; rw [if_neg (by rw [h21]; decide), hs, show i = 2 ^ S 0 2 by omega], hI.thr (nI 0), by simp [sp_weight, h10]; rfl⟩)
          · -- 53 F
            refine x_lload_n hC 2 rfl dX6_weight_56 ?_
            refine x_aload_n hC 0 rfl dX6_weight_57 ?_
            refine x_iload_n hC 1 rfl dX6_weight_58 ?_
            refine x_aload_n hC 0 rfl dX6_weight_59 ?_
            refine x_iload hC 3 rfl dX6_weight_60 ?_
            refine x_callVI hC cw_X6_128 (c_X6_codewordOf (key := i) (S := S) (hI.thr (nI 0)).mb hV (by omega)) dX6_weight_62 [.int (nI v), .ref (b 0), .long (lN s)] rfl (Nat.le_of_ble_eq_true rfl) rfl (rm_ok hRm (by decide) (by decide)) 6 0 rfl rfl (fun r62 m62 hp62 => ?_)
            obtain ⟨rfl, rfl⟩ := hp62
            refine x_ixorE hC (z := (nI (v ^^^ (cw S i)))) (nI_xor _ _) dX6_weight_65 ?_
            refine x_callVL hC cw_X6_156 (c_X6_weightOf (w := (v ^^^ (cw S i))) (S := S) (hI.thr (nI 0)) hV (by have := xor_lt14 (show v < 16384 by omega) (cw_lt hV i); omega)) dX6_weight_66 [.long (lN s)] rfl (Nat.le_of_ble_eq_true rfl) rfl (rm_ok hRm (by decide) (by decide)) 6 0 rfl rfl (fun r66 m66 hp66 => ?_)
            obtain ⟨rfl, rfl⟩ := hp66
            refine x_laddE hC (z := (lN (s + (wt S (v ^^^ (cw S i)))))) (lN_add _ _) dX6_weight_69 ?_
            refine x_lstore_n hC [(3, .long (lN (s + (wt S (v ^^^ (cw S i)))))), (0, .ref (b 0)), (1, .int (nI v)), (5, .int (nI i))] rfl (lt_n hn rfl) dX6_weight_70 ?_
            refine x_iinc hC (z := 1) (v := (nI (i + 1))) 3 rfl (nI_add i 1) [(5, .int (nI (i + 1))), (3, .long (lN (s + (wt S (v ^^^ (cw S i)))))), (0, .ref (b 0)), (1, .int (nI v))] rfl (lt_n hn rfl) dX6_weight_71 ?_
            refine x_goto hC 45 dX6_weight_74 rfl ?_
            refine x_lv [2, 3, 1, 0] rfl ?_
            exact ih45 (s + (wt S (v ^^^ (cw S i)))) (i + 1) (by omega) (by omega) (by rw [hs]; rfl)
      exact L45 _ 0 0 (Nat.lt_succ_self _) (by omega) rfl
    · -- 21 F
      refine x_aload_n hC 0 rfl dX6_weight_24 ?_
      refine x_iload_n hC 1 rfl dX6_weight_25 ?_
      refine x_aload_n hC 0 rfl dX6_weight_26 ?_
      refine x_aload_n hC 0 rfl dX6_weight_27 ?_
      refine x_iload_n hC 1 rfl dX6_weight_28 ?_
      refine x_callVI hC cw_X6_160 (c_X6_bestGuess (h := v) (S := S) (hI.thr (nI 0)) hV (by omega)) dX6_weight_29 [.ref (b 0), .int (nI v), .ref (b 0)] rfl (Nat.le_of_ble_eq_true rfl) rfl (rm_ok hRm (by decide) (by decide)) 6 0 rfl rfl (fun r29 m29 hp29 => ?_)
      obtain ⟨rfl, rfl⟩ := hp29
      refine x_callVI hC cw_X6_128 (c_X6_codewordOf (key := (bgS S v)) (S := S) (hI.thr (nI 0)).mb hV (by have := amax_lt (fun key => wt S (v ^^^ cw S key)) hpk1; exact Nat.lt_trans this (by omega))) dX6_weight_32 [.int (nI v), .ref (b 0)] rfl (Nat.le_of_ble_eq_true rfl) rfl (rm_ok hRm (by decide) (by decide)) 6 0 rfl rfl (fun r32 m32 hp32 => ?_)
      obtain ⟨rfl, rfl⟩ := hp32
      refine x_ixorE hC (z := (nI (v ^^^ (cw S (bgS S v))))) (nI_xor _ _) dX6_weight_35 ?_
      refine x_callVL hC cw_X6_156 (c_X6_weightOf (w := (v ^^^ (cw S (bgS S v)))) (S := S) (hI.thr (nI 0)) hV (by have := xor_lt14 (show v < 16384 by omega) (cw_lt hV (bgS S v)); omega)) dX6_weight_36 [] rfl (Nat.le_of_ble_eq_true rfl) rfl (rm_ok hRm (by decide) (by decide)) 6 0 rfl rfl (fun r36 m36 hp36 => ?_)
      obtain ⟨rfl, rfl⟩ := hp36
      exact x_lret hC hR dX6_weight_39 (⟨by simp only [sp_weight, h10, if_true, tv]; rw [if_pos (by rw [h21]; rfl)], hI.thr (nI 0), by simp [sp_weight, h10]; rfl⟩)
  · -- 10 F
    refine x_aload_n hC 0 rfl dX6_weight_13 ?_
    refine x_iconst hC (v := (nI 1)) dX6_weight_14 rfl ?_
    refine x_callVI hC cw_X6_143 (c_X6_raises (j := 1)  ) dX6_weight_15 [] rfl (Nat.le_of_ble_eq_true rfl) rfl (rm_ok hRm (by decide) (by decide)) 6 0 rfl rfl (fun r15 m15 hp15 => ?_)
    obtain ⟨rfl, rfl⟩ := hp15
    refine x_i2l hC (v := (lN 0)) (rfl) dX6_weight_18 ?_
    exact x_lret hC hR dX6_weight_19 (⟨by simp [sp_weight, h10], (hI.thr (nI 0)).thr _, by simp [sp_weight, h10]; rfl⟩)
