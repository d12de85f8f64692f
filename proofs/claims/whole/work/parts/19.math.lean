/-! bits counted one by one -/
theorem bt_0 (x : Nat) : bt x 0 = x % 2 := by unfold bt; simp
theorem bt_S (x i : Nat) : bt x (i + 1) = bt (x / 2) i := by unfold bt; rw [Nat.pow_succ', Nat.div_div_eq_div_mul]
theorem xor_bit0 (x : Nat) : (x ^^^ 1) % 2 = 1 - x % 2 ∧ (x ^^^ 1) / 2 = x / 2 := by
  constructor
  · have h := Nat.xor_mod_two_eq_one (a := x) (b := 1)
    rcases Nat.mod_two_eq_zero_or_one x with q | q <;> rcases Nat.mod_two_eq_zero_or_one (x ^^^ 1) with r | r <;> simp [q, r] at h ⊢
  · rw [Nat.xor_div_two]; simp
theorem xor_bitS (x i : Nat) : (x ^^^ 2 ^ (i + 1)) % 2 = x % 2 ∧ (x ^^^ 2 ^ (i + 1)) / 2 = x / 2 ^^^ 2 ^ i := by
  constructor
  · have h := Nat.xor_mod_two_eq_one (a := x) (b := 2 ^ (i + 1))
    have e : 2 ^ (i + 1) % 2 = 0 := by rw [Nat.pow_succ]; omega
    rcases Nat.mod_two_eq_zero_or_one x with q | q <;> rcases Nat.mod_two_eq_zero_or_one (x ^^^ 2 ^ (i + 1)) with r | r <;> simp [q, r, e] at h ⊢
  · rw [Nat.xor_div_two, Nat.pow_succ, Nat.mul_div_cancel _ (by decide)]
theorem pcs_flip : ∀ (k i x : Nat), i < k → (bt x i = 0 → pcs k (x ^^^ 2 ^ i) = pcs k x + 1) ∧ (bt x i = 1 → pcs k (x ^^^ 2 ^ i) + 1 = pcs k x)
  | k + 1, 0, x, _ => by
    have h := xor_bit0 x
    rw [bt_0]
    show (_ → (x ^^^ 2 ^ 0) % 2 + pcs k ((x ^^^ 2 ^ 0) / 2) = x % 2 + pcs k (x / 2) + 1) ∧ (_ → (x ^^^ 2 ^ 0) % 2 + pcs k ((x ^^^ 2 ^ 0) / 2) + 1 = x % 2 + pcs k (x / 2))
    rw [Nat.pow_zero, h.1, h.2]
    omega
  | k + 1, i + 1, x, hi => by
    have h := xor_bitS x i
    have ih := pcs_flip k i (x / 2) (by omega)
    rw [bt_S]
    show (_ → (x ^^^ 2 ^ (i + 1)) % 2 + pcs k ((x ^^^ 2 ^ (i + 1)) / 2) = x % 2 + pcs k (x / 2) + 1) ∧ (_ → (x ^^^ 2 ^ (i + 1)) % 2 + pcs k ((x ^^^ 2 ^ (i + 1)) / 2) + 1 = x % 2 + pcs k (x / 2))
    rw [h.1, h.2]
    exact ⟨fun q => by have := ih.1 q; omega, fun q => by have := ih.2 q; omega⟩
theorem pc_up {x i : Nat} (hi : i < 14) (h : bt x i = 0) : pc (x ^^^ 2 ^ i) = pc x + 1 := (pcs_flip 14 i x hi).1 h
theorem pc_le1 {x i : Nat} (hi : i < 14) : pc (x ^^^ 2 ^ i) ≤ pc x + 1 := by
  have h := bt_lt x i
  have h2 := pcs_flip 14 i x hi
  unfold pc
  rcases (show bt x i = 0 ∨ bt x i = 1 by omega) with q | q
  · rw [h2.1 q]; omega
  · have := h2.2 q; omega
theorem pcs_zero : ∀ (k v : Nat), v < 2 ^ k → pcs k v = 0 → v = 0
  | 0, v, h, _ => by simpa using h
  | k + 1, v, h, e => by
    have e : v % 2 + pcs k (v / 2) = 0 := e
    have hp : 2 ^ (k + 1) = 2 * 2 ^ k := by rw [Nat.pow_succ, Nat.mul_comm]
    have := pcs_zero k (v / 2) (by omega) (by omega)
    omega
theorem pc_zero {v : Nat} (h : v < 16384) (e : pc v = 0) : v = 0 := pcs_zero 14 v h e
/-! codewords are a linear code -/
theorem bt_xor (a b i : Nat) : bt (a ^^^ b) i = (bt a i + bt b i) % 2 := by
  have h := Nat.testBit_xor a b i
  rw [bt_testBit, bt_testBit, bt_testBit] at h
  have h1 := bt_lt a i
  have h2 := bt_lt b i
  have h3 := bt_lt (a ^^^ b) i
  rcases (show bt a i = 0 ∨ bt a i = 1 by omega) with q1 | q1 <;> rcases (show bt b i = 0 ∨ bt b i = 1 by omega) with q2 | q2 <;> rcases (show bt (a ^^^ b) i = 0 ∨ bt (a ^^^ b) i = 1 by omega) with q3 | q3 <;> rw [q1, q2, q3] at h <;> rw [q1, q2, q3] <;> simp at h
theorem cwx_xor (rows : Nat → Nat) (a b : Nat) : ∀ i : Nat, cwx rows (a ^^^ b) i = cwx rows a i ^^^ cwx rows b i
  | 0 => by simp [cwx]
  | i + 1 => by
    simp only [cwx]
    rw [cwx_xor rows a b i, bt_xor]
    have h1 := bt_lt a i
    have h2 := bt_lt b i
    rcases (show bt a i = 0 ∨ bt a i = 1 by omega) with q1 | q1 <;> rcases (show bt b i = 0 ∨ bt b i = 1 by omega) with q2 | q2 <;> rw [q1, q2] <;> simp
    · rw [Nat.xor_assoc]
    · rw [Nat.xor_assoc, Nat.xor_comm (cwx rows b i) (rows i), ← Nat.xor_assoc]
    · rw [Nat.xor_assoc, ← Nat.xor_assoc (rows i), Nat.xor_comm (rows i), Nat.xor_assoc, Nat.xor_self, Nat.xor_zero]
theorem cw_xor (S : SS) (a b : Nat) : cw S (a ^^^ b) = cw S a ^^^ cw S b := cwx_xor (S 9) a b (S 0 2)
theorem xor_eq0 {a b : Nat} (h : a ^^^ b = 0) : a = b := by
  have : a ^^^ b ^^^ b = 0 ^^^ b := by rw [h]
  rw [Nat.xor_assoc, Nat.xor_self, Nat.xor_zero, Nat.zero_xor] at this
  exact this
theorem cw_inj {S : SS} (hV : SV S) {a b : Nat} (ha : a < 2 ^ S 0 2) (hb : b < 2 ^ S 0 2) (h : cw S a = cw S b) : a = b := by
  apply Classical.byContradiction
  intro hne
  have h1 : a ^^^ b < 2 ^ S 0 2 := Nat.xor_lt_two_pow ha hb
  have h2 : a ^^^ b ≠ 0 := fun q => hne (xor_eq0 q)
  refine hV.ind (a ^^^ b) (by omega) h1 ?_
  rw [cw_xor, h, Nat.xor_self]
/-- the key that a word gives -/
def nkS (S : SS) (v : Nat) : Nat := amin (fun j => pc (cw S j ^^^ v)) (2 ^ S 0 2)
theorem nk_iff {S : SS} {key f : Nat} (hk : key < 2 ^ S 0 2) : nkS S (cw S key ^^^ f) = key ↔ (∀ j, j < 2 ^ S 0 2 → pc f ≤ pc (cw S j ^^^ (cw S key ^^^ f))) ∧ (∀ j, j < key → pc f < pc (cw S j ^^^ (cw S key ^^^ f))) := by
  have e : pc (cw S key ^^^ (cw S key ^^^ f)) = pc f := by rw [← Nat.xor_assoc, Nat.xor_self, Nat.zero_xor]
  constructor
  · intro h
    constructor
    · intro j hj
      have := amin_le (fun j => pc (cw S j ^^^ (cw S key ^^^ f))) hj
      rw [show amin (fun j => pc (cw S j ^^^ (cw S key ^^^ f))) (2 ^ S 0 2) = key from h] at this
      rw [e] at this
      exact this
    · intro j hj
      have := amin_first (fun j => pc (cw S j ^^^ (cw S key ^^^ f))) (m := 2 ^ S 0 2) (i := j) (by rw [show amin (fun j => pc (cw S j ^^^ (cw S key ^^^ f))) (2 ^ S 0 2) = key from h]; exact hj)
      rw [show amin (fun j => pc (cw S j ^^^ (cw S key ^^^ f))) (2 ^ S 0 2) = key from h] at this
      rw [e] at this
      exact this
  · intro h
    refine amin_eq hk (fun i hi => ?_) (fun i hi => ?_)
    · rw [e]; exact h.1 i hi
    · rw [e]; exact h.2 i hi
/-- with a flip less it stays harmless -/
theorem nk_less {S : SS} {key f i : Nat} (hk : key < 2 ^ S 0 2) (hi : i < 14) (hf : bt f i = 0) (h : nkS S (cw S key ^^^ (f ^^^ 2 ^ i)) = key) : nkS S (cw S key ^^^ f) = key := by
  rw [nk_iff hk] at h ⊢
  have e : ∀ j, cw S j ^^^ (cw S key ^^^ (f ^^^ 2 ^ i)) = (cw S j ^^^ (cw S key ^^^ f)) ^^^ 2 ^ i := fun j => by rw [Nat.xor_assoc, Nat.xor_assoc]
  have h1 := pc_up hi hf
  constructor
  · intro j hj
    have h2 := h.1 j hj
    rw [e] at h2
    have h3 := pc_le1 (x := cw S j ^^^ (cw S key ^^^ f)) hi
    omega
  · intro j hj
    have h2 := h.2 j hj
    rw [e] at h2
    have h3 := pc_le1 (x := cw S j ^^^ (cw S key ^^^ f)) hi
    omega
theorem nk_0 {S : SS} (hV : SV S) {key : Nat} (hk : key < 2 ^ S 0 2) : nkS S (cw S key) = key := by
  have h : nkS S (cw S key ^^^ 0) = key := by
    rw [nk_iff hk]
    rw [pc_0]
    refine ⟨fun _ _ => Nat.zero_le _, fun j hj => ?_⟩
    rcases Nat.eq_zero_or_pos (pc (cw S j ^^^ (cw S key ^^^ 0))) with q | q
    · exfalso
      rw [Nat.xor_zero] at q
      have := pc_zero (xor_lt14 (cw_lt hV j) (cw_lt hV key)) q
      have := cw_inj hV (by omega) hk (xor_eq0 this)
      omega
    · exact q
  rwa [Nat.xor_zero] at h
/-! harmless ways -/
theorem xor_lt2 {f c i : Nat} (hf : f < 2 ^ c) (hi : i < c) : f ^^^ 2 ^ i < 2 ^ c := Nat.xor_lt_two_pow hf (Nat.pow_lt_pow_right (by decide) hi)
theorem xor_ltS {f c : Nat} (hf : f < 2 ^ c) : f ^^^ 2 ^ c < 2 ^ (c + 1) := Nat.xor_lt_two_pow (Nat.lt_trans hf (Nat.pow_lt_pow_right (by decide) (by omega))) (Nat.pow_lt_pow_right (by decide) (by omega))
theorem bt_xne {f i c : Nat} (h : i ≠ c) : bt (f ^^^ 2 ^ c) i = bt f i := by
  rw [bt_xor]
  have : bt (2 ^ c) i = 0 := by
    have e := Nat.testBit_two_pow_of_ne (n := c) (m := i) (Ne.symm h)
    rw [bt_testBit] at e
    have := bt_lt (2 ^ c) i
    simp at e
    omega
  have := bt_lt f i
  omega
theorem xor_sw (a b c : Nat) : a ^^^ b ^^^ c = a ^^^ c ^^^ b := by rw [Nat.xor_assoc, Nat.xor_comm b, ← Nat.xor_assoc]
section Hl
variable {S : SS} {key n : Nat} {fl sy : Nat → Nat}
/-- one flip more leaves no more harmless ways -/
theorem hlx_flip (hk : key < 2 ^ S 0 2) (hn : n ≤ 14) : ∀ (d f i : Nat), d ≤ n → i < n - d → f < 2 ^ (n - d) → bt f i = 0 → hlx fl sy (nkS S) key n d (cw S key ^^^ (f ^^^ 2 ^ i)) ≤ hlx fl sy (nkS S) key n d (cw S key ^^^ f)
  | 0, _, _, _, _, _, _ => Nat.le_refl _
  | d + 1, f, i, hd, hi, hf, hb => by
    have hc : n - (d + 1) + 1 = n - d := by omega
    have hbn : bt (f ^^^ 2 ^ (n - (d + 1))) i = 0 := by rw [bt_xne (by omega)]; exact hb
    have hfS : f < 2 ^ (n - d) := Nat.lt_trans hf (Nat.pow_lt_pow_right (by decide) (by omega))
    have hfS2 : f ^^^ 2 ^ (n - (d + 1)) < 2 ^ (n - d) := by rw [← hc]; exact xor_ltS hf
    have h1 := hlx_flip hk hn d f i (by omega) (by omega) hfS hb
    have h2 := hlx_flip hk hn d (f ^^^ 2 ^ (n - (d + 1))) i (by omega) (by omega) hfS2 hbn
    have e1 : cw S key ^^^ (f ^^^ 2 ^ i) ^^^ 2 ^ (n - (d + 1)) = cw S key ^^^ ((f ^^^ 2 ^ (n - (d + 1))) ^^^ 2 ^ i) := by rw [Nat.xor_assoc, xor_sw]
    have e2 : cw S key ^^^ f ^^^ 2 ^ (n - (d + 1)) = cw S key ^^^ (f ^^^ 2 ^ (n - (d + 1))) := by rw [Nat.xor_assoc]
    simp only [hlx]
    rw [e1, e2]
    refine Nat.add_le_add (Nat.mul_le_mul_left _ h1) ?_
    by_cases q : 0 < fl (n - (d + 1)) ∧ nkS S (cw S key ^^^ ((f ^^^ 2 ^ (n - (d + 1))) ^^^ 2 ^ i)) = key
    · rw [if_pos q, if_pos ⟨q.1, nk_less hk (by omega) hbn q.2⟩]
      exact Nat.mul_le_mul_left _ h2
    · rw [if_neg q]; exact Nat.zero_le _
end Hl
theorem mix_le {p p' X Y X' Y' : Nat} (h1 : p ≤ p') (h2 : p' ≤ 8) (hX : X' ≤ X) (hY : Y' ≤ Y) (hXY : Y' ≤ X') : (8 - p') * X' + p' * Y' ≤ (8 - p) * X + p * Y := by
  obtain ⟨q, rfl⟩ : ∃ q, p' = p + q := ⟨p' - p, by omega⟩
  obtain ⟨r, hr⟩ : ∃ r, 8 - p = r + q := ⟨8 - p - q, by omega⟩
  have e : 8 - (p + q) = r := by omega
  rw [e, hr, Nat.add_mul, Nat.add_mul]
  have a1 : r * X' ≤ r * X := Nat.mul_le_mul_left _ hX
  have a2 : p * Y' ≤ p * Y := Nat.mul_le_mul_left _ hY
  have a3 : q * Y' ≤ q * X := Nat.mul_le_mul_left _ (Nat.le_trans hXY hX)
  omega
/-- greater chances leave no more harmless ways -/
theorem hlx_mono {S : SS} {key n m : Nat} {p p' : Nat → Nat} (hk : key < 2 ^ S 0 2) (hn : n ≤ 14) (hp : ∀ j, j < n → p j ≤ p' j ∧ p' j ≤ 8) : ∀ (d f : Nat), d ≤ n → f < 2 ^ (n - d) → hlx (flp m p') (sty m p') (nkS S) key n d (cw S key ^^^ f) ≤ hlx (flp m p) (sty m p) (nkS S) key n d (cw S key ^^^ f)
  | 0, _, _, _ => Nat.le_refl _
  | d + 1, f, hd, hf => by
    have hc : n - (d + 1) + 1 = n - d := by omega
    have hfS : f < 2 ^ (n - d) := Nat.lt_trans hf (Nat.pow_lt_pow_right (by decide) (by omega))
    have hfS2 : f ^^^ 2 ^ (n - (d + 1)) < 2 ^ (n - d) := by rw [← hc]; exact xor_ltS hf
    have h1 := hlx_mono (m := m) hk hn hp d f (by omega) hfS
    have h2 := hlx_mono (m := m) hk hn hp d (f ^^^ 2 ^ (n - (d + 1))) (by omega) hfS2
    have hb : bt f (n - (d + 1)) = 0 := bt_low hf
    have h3 := hlx_flip (fl := flp m p') (sy := sty m p') hk hn d f (n - (d + 1)) (by omega) (by omega) hfS hb
    have hpp := hp (n - (d + 1)) (by omega)
    have e2 : cw S key ^^^ f ^^^ 2 ^ (n - (d + 1)) = cw S key ^^^ (f ^^^ 2 ^ (n - (d + 1))) := by rw [Nat.xor_assoc]
    simp only [hlx]
    rw [e2]
    generalize hc9 : n - (d + 1) = c at *
    by_cases hm : bt m c = 1
    · have z1 : flp m p' c = 0 := by unfold flp; rw [if_pos hm]
      have z2 : flp m p c = 0 := by unfold flp; rw [if_pos hm]
      have z3 : sty m p' c = 1 := by unfold sty; rw [if_pos hm]
      have z4 : sty m p c = 1 := by unfold sty; rw [if_pos hm]
      rw [z1, z2, z3, z4, if_neg (by omega), if_neg (by omega)]
      omega
    · have z1 : flp m p' c = p' c := by unfold flp; rw [if_neg hm]
      have z2 : flp m p c = p c := by unfold flp; rw [if_neg hm]
      have z3 : sty m p' c = 8 - p' c := by unfold sty; rw [if_neg hm]
      have z4 : sty m p c = 8 - p c := by unfold sty; rw [if_neg hm]
      rw [z1, z2, z3, z4]
      by_cases q : nkS S (cw S key ^^^ (f ^^^ 2 ^ c)) = key
      · have g := mix_le hpp.1 hpp.2 h1 h2 h3
        have t1 : ∀ (x : Nat) (Y : Nat), (if 0 < x ∧ nkS S (cw S key ^^^ (f ^^^ 2 ^ c)) = key then x * Y else 0) = x * Y := by
          intro x Y
          by_cases hx : 0 < x
          · rw [if_pos ⟨hx, q⟩]
          · rw [if_neg (fun z => hx z.1), show x = 0 by omega, Nat.zero_mul]
        rw [t1, t1]
        exact g
      · rw [if_neg (fun z => q z.2), if_neg (fun z => q z.2), Nat.add_zero, Nat.add_zero]
        exact Nat.mul_le_mul (by omega) h1
def tlp (g : Nat → Nat) (n : Nat) : Nat → Nat
  | 0 => 1
  | d + 1 => g (n - (d + 1)) * tlp g n d
theorem hlx_le {fl sy nk : Nat → Nat} {key n : Nat} : ∀ (d w : Nat), hlx fl sy nk key n d w ≤ tlp (fun j => fl j + sy j) n d
  | 0, _ => Nat.le_refl _
  | d + 1, w => by
    have h1 := hlx_le (fl := fl) (sy := sy) (nk := nk) (key := key) (n := n) d w
    have h2 := hlx_le (fl := fl) (sy := sy) (nk := nk) (key := key) (n := n) d (w ^^^ 2 ^ (n - (d + 1)))
    simp only [hlx, tlp]
    rw [Nat.add_mul, Nat.add_comm (fl _ * _)]
    refine Nat.add_le_add (Nat.mul_le_mul_left _ h1) ?_
    split
    · exact Nat.mul_le_mul_left _ h2
    · exact Nat.zero_le _
/-- open cells below c -/
def oc (m : Nat) : Nat → Nat
  | 0 => 0
  | c + 1 => oc m c + (if bt m c = 1 then 0 else 1)
theorem pcs_sum : ∀ (k v : Nat), pcs k v = sumN (fun i => bt v i) k
  | 0, _ => rfl
  | k + 1, v => by
    have e : ∀ k, sumN (fun i => bt v i) (k + 1) = v % 2 + sumN (fun i => bt (v / 2) i) k := by
      intro k
      induction k with
      | zero => simp [sumN, bt_0]
      | succ k ih =>
        rw [show sumN (fun i => bt v i) (k + 1 + 1) = sumN (fun i => bt v i) (k + 1) + bt v (k + 1) from rfl, ih, bt_S]
        rw [show sumN (fun i => bt (v / 2) i) (k + 1) = sumN (fun i => bt (v / 2) i) k + bt (v / 2) k from rfl]
        omega
    show v % 2 + pcs k (v / 2) = _
    rw [e, pcs_sum k (v / 2)]
theorem bt_nd (a m i : Nat) : bt (nd a m) i = if bt m i = 1 then 0 else bt a i := by
  have h := nd_bit a m i
  rw [bt_testBit, bt_testBit, bt_testBit] at h
  have h1 := bt_lt a i
  have h2 := bt_lt m i
  have h3 := bt_lt (nd a m) i
  rcases (show bt a i = 0 ∨ bt a i = 1 by omega) with q1 | q1 <;> rcases (show bt m i = 0 ∨ bt m i = 1 by omega) with q2 | q2 <;> rcases (show bt (nd a m) i = 0 ∨ bt (nd a m) i = 1 by omega) with q3 | q3 <;> rw [q1, q2, q3] at h <;> rw [q1, q2, q3] <;> simp at h ⊢
theorem bt_ones (c i : Nat) : bt (2 ^ c - 1) i = if i < c then 1 else 0 := by
  have h := Nat.testBit_two_pow_sub_one c i
  rw [bt_testBit] at h
  have h3 := bt_lt (2 ^ c - 1) i
  by_cases q : i < c
  · rw [if_pos q]; simp [q] at h; exact h
  · rw [if_neg q]; simp [q] at h; omega
theorem pc_oc (m : Nat) {c : Nat} (hc : c ≤ 14) : pc (nd (2 ^ c - 1) m) = oc m c := by
  have key : ∀ k, sumN (fun i => bt (nd (2 ^ c - 1) m) i) k = oc m (min k c) := by
    intro k
    induction k with
    | zero => simp [sumN, oc]
    | succ k ih =>
      rw [show sumN (fun i => bt (nd (2 ^ c - 1) m) i) (k + 1) = sumN (fun i => bt (nd (2 ^ c - 1) m) i) k + bt (nd (2 ^ c - 1) m) k from rfl, ih, bt_nd, bt_ones]
      by_cases q : k < c
      · rw [show min k c = k by omega, show min (k + 1) c = k + 1 by omega, if_pos q]
        rfl
      · rw [show min k c = c by omega, show min (k + 1) c = c by omega, if_neg q]
        split <;> rfl
  unfold pc
  rw [pcs_sum, key, show min 14 c = c by omega]
theorem tlp_oc {m n : Nat} {p : Nat → Nat} (hp : ∀ j, j < n → p j ≤ 8) : ∀ d, d ≤ n → tlp (fun j => flp m p j + sty m p j) n d * 2 ^ (3 * oc m (n - d)) = 2 ^ (3 * oc m n)
  | 0, _ => by simp [tlp]
  | d + 1, h => by
    have ih := tlp_oc (m := m) hp d (by omega)
    have hc : n - d = n - (d + 1) + 1 := by omega
    rw [hc] at ih
    have hpc := hp (n - (d + 1)) (by omega)
    simp only [tlp]
    generalize n - (d + 1) = c at *
    rw [← ih]
    simp only [oc]
    by_cases hm : bt m c = 1
    · rw [show flp m p c = 0 by unfold flp; rw [if_pos hm], show sty m p c = 1 by unfold sty; rw [if_pos hm], if_pos hm]
      simp
    · rw [show flp m p c = p c by unfold flp; rw [if_neg hm], show sty m p c = 8 - p c by unfold sty; rw [if_neg hm], if_neg hm, show p c + (8 - p c) = 8 by omega]
      rw [show 3 * (oc m c + 1) = 3 * oc m c + 3 by omega, Nat.pow_add, show (2 : Nat) ^ 3 = 8 from rfl]
      rw [Nat.mul_comm 8, Nat.mul_assoc, Nat.mul_comm 8, ← Nat.mul_assoc]
theorem allS_oc {S : SS} (hV : SV S) : allS S = 2 ^ (3 * oc (S 0 1) (S 0 0)) := by
  unfold allS opn
  rw [pc_oc _ hV.n2]
theorem agS_le (S : SS) (age j : Nat) : agS S age j ≤ 4 := by unfold agS ag; omega
theorem hls_eq (S : SS) (key age : Nat) : hls S key age = hlx (flp (S 0 1) (agS S age)) (sty (S 0 1) (agS S age)) (nkS S) key (S 0 0) (S 0 0) (cw S key) := rfl
theorem hls_le {S : SS} (hV : SV S) (key age : Nat) : hls S key age ≤ allS S := by
  have h1 := hlx_le (fl := flp (S 0 1) (agS S age)) (sy := sty (S 0 1) (agS S age)) (nk := nkS S) (key := key) (n := S 0 0) (S 0 0) (cw S key)
  have h2 := tlp_oc (m := S 0 1) (n := S 0 0) (p := agS S age) (fun j _ => by have := agS_le S age j; omega) (S 0 0) (Nat.le_refl _)
  rw [Nat.sub_self] at h2
  rw [allS_oc hV, hls_eq]
  simp only [oc, Nat.mul_zero, Nat.pow_zero, Nat.mul_one] at h2
  omega
theorem ag_mono (p q : Nat) {a b : Nat} (h : a ≤ b) : ag p q a ≤ ag p q b := by
  have h1 : q * a ≤ q * b := Nat.mul_le_mul_left _ h
  have h2 : q * a / 10 ≤ q * b / 10 := Nat.div_le_div_right h1
  unfold ag
  omega
theorem failS_mono {S : SS} (hV : SV S) {key : Nat} (hk : key < 2 ^ S 0 2) {a b : Nat} (h : a ≤ b) : failS S key a ≤ failS S key b := by
  have h1 := hlx_mono (m := S 0 1) (p := agS S a) (p' := agS S b) hk hV.n2 (fun j _ => ⟨ag_mono _ _ h, by have := agS_le S b j; omega⟩) (S 0 0) 0 (Nat.le_refl _) (Nat.two_pow_pos _)
  rw [Nat.xor_zero] at h1
  have h2 : hls S key b ≤ hls S key a := h1
  unfold failS
  omega
theorem abv_mono {S : SS} (hV : SV S) {key e : Nat} (hk : key < 2 ^ S 0 2) {a b : Nat} (h : a ≤ b) (ha : abv S key e a = true) : abv S key e b = true := by
  have h1 := failS_mono hV hk h
  simp only [abv, decide_eq_true_eq] at ha ⊢
  omega
theorem allS_b {S : SS} (hV : SV S) : allS S ≤ 2 ^ 42 := by
  unfold allS
  exact Nat.pow_le_pow_right (by decide) (by have := pc_le (opn S); omega)
theorem failS_b {S : SS} (hV : SV S) (key age : Nat) : failS S key age ≤ 2 ^ 42 := by
  have := allS_b hV
  unfold failS
  omega
theorem lcmp_le {a b : Nat} (ha : a < 2 ^ 63) (hb : b < 2 ^ 63) (h : lg_cmp (lN a) (lN b) ≤ 0) : a ≤ b := by
  apply Classical.byContradiction
  intro q
  have h1 : lN b < lN a := (pk_lLT hb ha).mpr (by omega)
  simp only [lg_cmp, if_pos h1] at h
  exact absurd h (by decide)
theorem lcmp_gt {a b : Nat} (ha : a < 2 ^ 63) (hb : b < 2 ^ 63) (h : ¬ lg_cmp (lN a) (lN b) ≤ 0) : b < a := by
  apply Classical.byContradiction
  intro q
  apply h
  have h1 : ¬ lN b < lN a := fun z => q ((pk_lLT hb ha).mp z)
  simp only [lg_cmp, if_neg h1]
  split <;> decide
theorem amax_1 (d : Nat → Nat) : amax d 1 = 0 := by simp [amax]
theorem amax_lt (d : Nat → Nat) : ∀ {m : Nat}, 0 < m → amax d m < m
  | 1, _ => by rw [amax_1]; decide
  | m + 2, _ => by
    have h := amax_lt d (m := m + 1) (by omega)
    show (if d (amax d (m + 1)) < d (m + 1) then m + 1 else amax d (m + 1)) < m + 2
    split <;> omega
theorem amax_S (d : Nat → Nat) (m : Nat) : amax d (m + 1) = if d (amax d m) < d m then m else amax d m := rfl
theorem wyx_le {m : Nat} {le : Nat → Nat} {w : Nat} (h : ∀ j, le j ≤ 8) : ∀ i, wyx m le w i ≤ 8 ^ i
  | 0 => Nat.le_refl _
  | i + 1 => by
    have h1 := wyx_le (m := m) (w := w) h i
    have h2 := h i
    simp only [wyx]
    rw [Nat.pow_succ]
    split
    · have : 8 ^ i * 1 ≤ 8 ^ i * 8 := Nat.mul_le_mul_left _ (by omega)
      omega
    · exact Nat.mul_le_mul h1 (by split <;> omega)
