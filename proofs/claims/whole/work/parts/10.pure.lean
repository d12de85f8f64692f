/-! bits -/
theorem pcs_0 : ∀ k : Nat, pcs k 0 = 0
  | 0 => rfl
  | k + 1 => by show 0 % 2 + pcs k (0 / 2) = 0; rw [Nat.zero_div, pcs_0 k]
theorem pcs_le : ∀ (k w : Nat), pcs k w ≤ k
  | 0, _ => Nat.le_refl _
  | k + 1, w => by
    show w % 2 + pcs k (w / 2) ≤ k + 1
    have := pcs_le k (w / 2)
    omega
theorem pc_le (w : Nat) : pc w ≤ 14 := pcs_le 14 w
theorem pc_0 : pc 0 = 0 := pcs_0 14
theorem pcs_kern : ∀ (k v : Nat), v ≠ 0 → v < 2 ^ k → pcs k (v &&& (v - 1)) + 1 = pcs k v
  | 0, v, h0, h => by simp at h; omega
  | k + 1, v, h0, h => by
    show (v &&& (v - 1)) % 2 + pcs k ((v &&& (v - 1)) / 2) + 1 = v % 2 + pcs k (v / 2)
    rw [Nat.and_div_two]
    have hp : 2 ^ (k + 1) = 2 * 2 ^ k := by rw [Nat.pow_succ, Nat.mul_comm]
    rcases Nat.mod_two_eq_zero_or_one v with hv | hv
    · have h1 : (v &&& (v - 1)) % 2 = 0 := by
        rcases Nat.mod_two_eq_zero_or_one (v &&& (v - 1)) with q | q
        · exact q
        · have := (Nat.and_mod_two_eq_one.mp q).1
          omega
      have h2 : (v - 1) / 2 = v / 2 - 1 := by omega
      have h3 := pcs_kern k (v / 2) (by omega) (by omega)
      rw [h1, h2, hv]
      omega
    · have h1 : (v &&& (v - 1)) % 2 = 0 := by
        rcases Nat.mod_two_eq_zero_or_one (v &&& (v - 1)) with q | q
        · exact q
        · have := (Nat.and_mod_two_eq_one.mp q).2
          omega
      have h2 : (v - 1) / 2 = v / 2 := by omega
      rw [h1, h2, hv, Nat.and_self]
      omega
theorem pc_kern {v : Nat} (h0 : v ≠ 0) (h : v < 16384) : pc (v &&& (v - 1)) + 1 = pc v := pcs_kern 14 v h0 h
theorem nd_le (a m : Nat) : nd a m ≤ a := by
  apply Nat.le_of_testBit
  intro i h
  rw [nd_bit] at h
  cases hh : a.testBit i
  · rw [hh] at h; simp at h
  · rfl
theorem nd_lt {a m n : Nat} (h : a < 2 ^ n) : nd a m < 2 ^ n := Nat.lt_of_le_of_lt (nd_le a m) h
theorem nd_and (a m : Nat) : nd a m &&& m = 0 := by
  apply Nat.eq_of_testBit_eq
  intro i
  rw [Nat.testBit_and, nd_bit, Nat.zero_testBit]
  cases a.testBit i <;> cases m.testBit i <;> rfl
theorem nd_self {a m : Nat} (h : a &&& m = 0) : nd a m = a := by unfold nd; rw [h, Nat.xor_zero]
theorem nd_nd (a m : Nat) : nd (nd a m) m = nd a m := nd_self (nd_and a m)
theorem nd_xor (a b m : Nat) : nd (a ^^^ b) m = nd a m ^^^ nd b m := by
  apply Nat.eq_of_testBit_eq
  intro i
  simp only [nd_bit, Nat.testBit_xor]
  cases a.testBit i <;> cases b.testBit i <;> cases m.testBit i <;> rfl
theorem and_open {w n m : Nat} (h : w < 2 ^ n) : w &&& nd (2 ^ n - 1) m = nd w m := by
  apply Nat.eq_of_testBit_eq
  intro i
  rw [Nat.testBit_and, nd_bit, nd_bit, Nat.testBit_two_pow_sub_one]
  by_cases hi : i < n
  · simp [hi]
  · have : w.testBit i = false := Nat.testBit_lt_two_pow (Nat.lt_of_lt_of_le h (Nat.pow_le_pow_right (by decide) (by omega)))
    simp [this]
theorem bt_and (a b i : Nat) : bt (a &&& b) i = bt a i * bt b i := by
  have h := Nat.testBit_and a b i
  rw [bt_testBit, bt_testBit, bt_testBit] at h
  have h1 := bt_lt a i
  have h2 := bt_lt b i
  have h3 := bt_lt (a &&& b) i
  rcases (show bt a i = 0 ∨ bt a i = 1 by omega) with q1 | q1 <;> rcases (show bt b i = 0 ∨ bt b i = 1 by omega) with q2 | q2 <;> rcases (show bt (a &&& b) i = 0 ∨ bt (a &&& b) i = 1 by omega) with q3 | q3 <;> rw [q1, q2, q3] at h <;> rw [q1, q2, q3] <;> simp at h <;> rfl
/-- the JDK's way to count -/
def bcf (w : Nat) : Nat :=
  let x1 := w - (w / 2 ^ 1 &&& 1431655765)
  let x2 := (x1 &&& 858993459) + (x1 / 2 ^ 2 &&& 858993459)
  let x3 := x2 + x2 / 2 ^ 4 &&& 252645135
  let x4 := x3 + x3 / 2 ^ 8
  let x5 := x4 + x4 / 2 ^ 16
  x5 &&& 63
def pcf (w : Nat) : Nat := w % 2 + (w / 2 % 2 + (w / 4 % 2 + (w / 8 % 2 + (w / 16 % 2 + (w / 32 % 2 + (w / 64 % 2 + (w / 128 % 2 + (w / 256 % 2 + (w / 512 % 2 + (w / 1024 % 2 + (w / 2048 % 2 + (w / 4096 % 2 + (w / 8192 % 2)))))))))))))
theorem pc_pcf (w : Nat) : pc w = pcf w := by
  simp only [pc, pcs, pcf, Nat.div_div_eq_div_mul, Nat.add_zero]
theorem bcf_all : allN (fun a => allN (fun b => bcf (a * 128 + b) == pcf (a * 128 + b)) 128) 128 = true := by decide +kernel
theorem bcf_pc {w : Nat} (h : w < 16384) : bcf w = pc w := by
  have h1 := allN_iff.mp (allN_iff.mp bcf_all (w / 128) (by omega)) (w % 128) (by omega)
  have h2 : w / 128 * 128 + w % 128 = w := by omega
  rw [h2] at h1
  rw [pc_pcf]
  exact eq_of_beq h1
/-! sums, least ones -/
theorem sumN_congr {f g : Nat → Nat} : ∀ {m : Nat}, (∀ i, i < m → f i = g i) → sumN f m = sumN g m
  | 0, _ => rfl
  | m + 1, h => by
    show sumN f m + f m = sumN g m + g m
    rw [sumN_congr (fun i hi => h i (by omega)), h m (by omega)]
theorem amin_1 (d : Nat → Nat) : amin d 1 = 0 := by simp [amin]
theorem amin_lt (d : Nat → Nat) : ∀ {m : Nat}, 0 < m → amin d m < m
  | 1, _ => by rw [amin_1]; decide
  | m + 2, _ => by
    have h := amin_lt d (m := m + 1) (by omega)
    show (if d (m + 1) < d (amin d (m + 1)) then m + 1 else amin d (m + 1)) < m + 2
    split <;> omega
theorem amin_le (d : Nat → Nat) : ∀ {m i : Nat}, i < m → d (amin d m) ≤ d i
  | m + 1, i, h => by
    show d (if d m < d (amin d m) then m else amin d m) ≤ d i
    by_cases hi : i = m
    · subst hi
      split <;> omega
    · have h1 := amin_le d (m := m) (i := i) (by omega)
      split <;> omega
theorem amin_first (d : Nat → Nat) : ∀ {m i : Nat}, i < amin d m → d (amin d m) < d i
  | 0, i, h => by simp [amin] at h
  | m + 1, i, h => by
    show d (if d m < d (amin d m) then m else amin d m) < d i
    by_cases q : d m < d (amin d m)
    · rw [if_pos q]
      have h' : i < m := by
        have e : amin d (m + 1) = m := by show (if d m < d (amin d m) then m else amin d m) = m; rw [if_pos q]
        omega
      have := amin_le d (m := m) (i := i) h'
      omega
    · rw [if_neg q]
      have e : amin d (m + 1) = amin d m := by show (if d m < d (amin d m) then m else amin d m) = _; rw [if_neg q]
      rw [e] at h
      exact amin_first d h
theorem amin_eq {d : Nat → Nat} {m b : Nat} (hb : b < m) (h1 : ∀ i, i < m → d b ≤ d i) (h2 : ∀ i, i < b → d b < d i) : amin d m = b := by
  have h3 := amin_le d (m := m) hb
  have h4 := amin_lt d (m := m) (by omega)
  have h5 := h1 _ h4
  rcases Nat.lt_trichotomy (amin d m) b with q | q | q
  · have := h2 _ q; omega
  · exact q
  · have := amin_first d q; omega
theorem amin_congr {d e : Nat → Nat} : ∀ {m : Nat}, (∀ i, i < m → d i = e i) → amin d m = amin e m
  | 0, _ => rfl
  | m + 1, h => by
    have h1 := amin_congr (m := m) (fun i hi => h i (by omega))
    show (if d m < d (amin d m) then m else amin d m) = if e m < e (amin e m) then m else amin e m
    by_cases hm : m = 0
    · subst hm
      simp [amin]
    · rw [h1, h m (by omega), h _ (by have := amin_lt e (m := m) (by omega); omega)]
theorem amin_S (d : Nat → Nat) (m : Nat) : amin d (m + 1) = if d m < d (amin d m) then m else amin d m := rfl
theorem uq_iff (d : Nat → Nat) : ∀ {m : Nat}, 0 < m → (uq d m = true ↔ ∀ i, i < m → i ≠ amin d m → d (amin d m) < d i)
  | 1, _ => by
    rw [amin_1]
    simp only [uq, true_iff]
    intro i h1 h2
    omega
  | m + 2, _ => by
    have ih := uq_iff d (m := m + 1) (by omega)
    have hl := amin_lt d (m := m + 1) (by omega)
    rw [amin_S]
    show (if d (m + 1) < d (amin d (m + 1)) then true else if d (m + 1) = d (amin d (m + 1)) then false else uq d (m + 1)) = true ↔ _
    by_cases h1 : d (m + 1) < d (amin d (m + 1))
    · simp only [if_pos h1, true_iff]
      intro i hi hne
      have := amin_le d (m := m + 1) (i := i) (by omega)
      omega
    · by_cases h2 : d (m + 1) = d (amin d (m + 1))
      · simp only [if_neg h1, if_pos h2]
        constructor
        · intro h; cases h
        · intro h
          have := h (m + 1) (by omega) (by omega)
          omega
      · simp only [if_neg h1, if_neg h2]
        rw [ih]
        constructor
        · intro h i hi hne
          by_cases q : i = m + 1
          · subst q; omega
          · exact h i (by omega) hne
        · intro h i hi hne
          exact h i (by omega) hne
theorem uq_S (d : Nat → Nat) {m : Nat} (h : 0 < m) : uq d (m + 1) = if d m < d (amin d m) then true else if d m = d (amin d m) then false else uq d m := by
  cases m with
  | zero => omega
  | succ m => rfl
