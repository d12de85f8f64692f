/-! memories: cell, place -> number -/
abbrev Me : Type := Nat → Nat → Int32
def up (μ : Me) (c j : Nat) (x : Int32) : Me := fun c' => if c' = c then upd (μ c) j x else μ c'
theorem up_s (μ : Me) (c j : Nat) (x : Int32) : up μ c j x c j = x := by simp [up, upd]
theorem up_c {μ : Me} {c j c' i : Nat} {x : Int32} (h : c' ≠ c) : up μ c j x c' i = μ c' i := by simp [up, h]
theorem up_j {μ : Me} {c j i : Nat} {x : Int32} (h : i ≠ j) : up μ c j x c i = μ c i := by simp [up, upd, h]
theorem up_at (μ : Me) (c j i : Nat) (x : Int32) : up μ c j x c i = if i = j then x else μ c i := by simp [up, upd]
/-- class ids of arrays: 0 int, 1 boolean, 2 long, 3 int[] -/
def tyE (c : Nat → ClassId) : List (ClassId × FieldType) := [(c 0, .int), (c 1, .boolean), (c 2, .long), (c 3, .array .int)]
/-- the class's cells: NoiseKeys, Cells, Code, Chips, Pairs, Flips; then arrays -/
def xw (c : Nat → ClassId) (a : Nat → Nat) (μ : Me) : va_W := [
  (a 0, .inr (5, [.ref (a 1), .ref (a 2), .ref (a 3), .ref (a 4), .ref (a 5), .ref (a 6)])),
  (a 1, .inr (0, [.int (μ 0 0), .int (μ 0 1), .ref (a 7)])),
  (a 2, .inr (2, [.int (μ 0 2), .ref (a 11)])),
  (a 3, .inr (1, [.int (μ 0 3), .ref (a 12), .ref (a 13), .ref (a 14), .ref (a 15)])),
  (a 4, .inr (4, [.int (μ 0 4), .ref (a 16), .ref (a 17), .ref (a 18), .int (μ 0 5), .int (μ 0 6), .ref (a 19), .ref (a 20), .ref (a 21), .ref (a 22)])),
  (a 5, .inr (3, [.ref (a 1), .ref (a 2), .ref (a 23), .ref (a 24)])),
  (a 6, .inl (c 0, 7, .inl (μ 6))),
  (a 7, .inl (c 3, 3, .inr (.inr (.inr (.inr (fun j => if j = 0 then some (a 8) else if j = 1 then some (a 9) else some (a 10))))))),
  (a 8, .inl (c 0, 14, .inl (μ 8))),
  (a 9, .inl (c 0, 14, .inl (μ 9))),
  (a 10, .inl (c 0, 14, .inl (μ 10))),
  (a 11, .inl (c 0, 64, .inl (μ 11))),
  (a 12, .inl (c 0, 8, .inl (μ 12))),
  (a 13, .inl (c 1, 8, .inl (μ 13))),
  (a 14, .inl (c 0, 8, .inl (μ 14))),
  (a 15, .inl (c 0, 8, .inl (μ 15))),
  (a 16, .inl (c 1, 16, .inl (μ 16))),
  (a 17, .inl (c 0, 16, .inl (μ 17))),
  (a 18, .inl (c 1, 16, .inl (μ 18))),
  (a 19, .inl (c 0, 5, .inl (μ 19))),
  (a 20, .inl (c 0, 16, .inl (μ 20))),
  (a 21, .inl (c 0, 4, .inl (μ 21))),
  (a 22, .inl (c 0, 16, .inl (μ 22))),
  (a 23, .inl (c 0, 14, .inl (μ 23))),
  (a 24, .inl (c 0, 14, .inl (μ 24)))]
/-- the model's memory: ints, and the row of longs -/
abbrev MM : Type := Me × (Nat → Int64)
def mup (τ : MM) (c j : Nat) (x : Int32) : MM := (up τ.1 c j x, τ.2)
def mupL (τ : MM) (j : Nat) (x : Int64) : MM := (τ.1, vp_updL τ.2 j x)
def mw (c : Nat → ClassId) (b : Nat → Nat) (τ : MM) : va_W := [
  (b 0, .inr (6, [.ref (b 1), .ref (b 2), .ref (b 3), .ref (b 4), .ref (b 5), .ref (b 6), .ref (b 7), .ref (b 8), .ref (b 9), .ref (b 10), .ref (b 11), .int (τ.1 0 0), .int (τ.1 0 1), .int (τ.1 0 2), .int (τ.1 0 3), .int (τ.1 0 4), .ref (b 12), .ref (b 13), .ref (b 14), .int (τ.1 0 5), .ref (b 15), .int (τ.1 0 6), .ref (b 16), .ref (b 17), .ref (b 18)])),
  (b 1, .inl (c 0, 7, .inl (τ.1 1))),
  (b 2, .inl (c 0, 14, .inl (τ.1 2))),
  (b 3, .inl (c 0, 14, .inl (τ.1 3))),
  (b 4, .inl (c 0, 14, .inl (τ.1 4))),
  (b 5, .inl (c 0, 8, .inl (τ.1 5))),
  (b 6, .inl (c 0, 8, .inl (τ.1 6))),
  (b 7, .inl (c 0, 8, .inl (τ.1 7))),
  (b 8, .inl (c 0, 6, .inl (τ.1 8))),
  (b 9, .inl (c 0, 16, .inl (τ.1 9))),
  (b 10, .inl (c 1, 8, .inl (τ.1 10))),
  (b 11, .inl (c 1, 16, .inl (τ.1 11))),
  (b 12, .inl (c 0, 16384, .inl (τ.1 12))),
  (b 13, .inl (c 0, 64, .inl (τ.1 13))),
  (b 14, .inl (c 1, 16384, .inl (τ.1 14))),
  (b 15, .inl (c 2, 16384, .inr (.inl τ.2))),
  (b 16, .inl (c 0, 5, .inl (τ.1 16))),
  (b 17, .inl (c 0, 16, .inl (τ.1 17))),
  (b 18, .inl (c 0, 4, .inl (τ.1 18)))]
theorem lt_n {F : FX} {m i : Nat} (hn : fx_n F = m) (h : Nat.blt i m = true) : i < fx_n F := by rw [hn]; exact Nat.le_of_ble_eq_true h
theorem xv {x y : Int32} (h : x = y) : some (Value.int x) = some (Value.int y) := congrArg (fun z => some (Value.int z)) h
theorem lt31 {a b : Nat} (h : a < b) (hb : Nat.ble b 2147483648 = true) : a < 2 ^ 31 := Nat.lt_of_lt_of_le h (Nat.le_of_ble_eq_true hb)
/-! numbers -/
/-- a without the bits of m -/
def nd (a m : Nat) : Nat := a ^^^ (a &&& m)
/-- bit k of a -/
def bt (a k : Nat) : Nat := a / 2 ^ k % 2
theorem nI_bv (n : Nat) : (nI n).toBitVec = BitVec.ofNat 32 n := rfl
theorem i32_ext {x y : Int32} (h : x.toBitVec = y.toBitVec) : x = y := Int32.toBitVec_inj.mp h
theorem nI_and (a b : Nat) : nI a &&& nI b = nI (a &&& b) := i32_ext (by
  rw [Int32.toBitVec_and, nI_bv, nI_bv, nI_bv]
  exact BitVec.eq_of_getLsbD_eq (fun i hi => by simp [hi]))
theorem nI_or (a b : Nat) : nI a ||| nI b = nI (a ||| b) := i32_ext (by
  rw [Int32.toBitVec_or, nI_bv, nI_bv, nI_bv]
  exact BitVec.eq_of_getLsbD_eq (fun i hi => by simp [hi]))
theorem nI_xor (a b : Nat) : nI a ^^^ nI b = nI (a ^^^ b) := i32_ext (by
  rw [Int32.toBitVec_xor, nI_bv, nI_bv, nI_bv]
  exact BitVec.eq_of_getLsbD_eq (fun i hi => by simp [hi]))
theorem nd_bit (a m i : Nat) : (nd a m).testBit i = (a.testBit i && !m.testBit i) := by
  unfold nd
  rw [Nat.testBit_xor, Nat.testBit_and]
  cases a.testBit i <;> cases m.testBit i <;> rfl
theorem nI_andc (a m : Nat) : nI a &&& (nI m ^^^ (-1)) = nI (nd a m) := i32_ext (by
  rw [Int32.toBitVec_and, Int32.toBitVec_xor, nI_bv, nI_bv, nI_bv]
  refine BitVec.eq_of_getLsbD_eq (fun i hi => ?_)
  have h1 : (Int32.toBitVec (-1)) = BitVec.allOnes 32 := by decide
  rw [h1]
  simp only [BitVec.getLsbD_and, BitVec.getLsbD_xor, BitVec.getLsbD_ofNat, BitVec.getLsbD_allOnes, nd_bit, hi, decide_true, Bool.true_and, Bool.xor_true])
theorem nI_sh (k : Nat) (h : k < 32) : ((nI k &&& 31).toBitVec.smod 32).toNat = k := by
  have : ∀ k : Fin 32, ((nI k.val &&& 31).toBitVec.smod 32).toNat = k.val := by decide
  exact this ⟨k, h⟩
theorem nI_shl (a : Nat) {k : Nat} (h : k < 32) : nI a <<< (nI k &&& 31) = nI (a * 2 ^ k) := i32_ext (by
  apply BitVec.eq_of_toNat_eq
  rw [pk_shl _ _ k (nI_sh k h), nI_bv, nI_bv]
  simp [Nat.mod_mul_mod])
theorem nI_shl1 {k : Nat} (h : k < 32) : nI 1 <<< (nI k &&& 31) = nI (2 ^ k) := by rw [nI_shl 1 h, Nat.one_mul]
theorem nI_shr {a k : Nat} (ha : a < 2 ^ 31) (h : k < 32) : nI a >>> (nI k &&& 31) = nI (a / 2 ^ k) := pk_shrN ha _ k (nI_sh k h)
theorem nI_and1 (a : Nat) : nI a &&& nI 1 = nI (a % 2) := by rw [nI_and, Nat.and_one_is_mod]
theorem nI_ushr {a k : Nat} (ha : a < 2 ^ 32) (h : k < 32) : ((nI a).toUInt32 >>> ((nI k).toUInt32 &&& Int32.toUInt32 31)).toInt32 = nI (a / 2 ^ k) := by
  have hk : (((nI k).toUInt32 &&& Int32.toUInt32 31).toBitVec % 32).toNat = k := by
    have : ∀ k : Fin 32, (((nI k.val).toUInt32 &&& Int32.toUInt32 31).toBitVec % 32).toNat = k.val := by decide
    exact this ⟨k, h⟩
  exact pk_ushrN ha _ k hk
theorem lN_mulN (a b : Nat) : lN a * lN b = lN (a * b) := lN_mul a b
theorem ic_m1 : Int32.ofInt (-1) = -1 := by decide
theorem zI_m1 : zI (-1) = -1 := by decide
theorem bt_lt (a k : Nat) : bt a k < 2 := Nat.mod_lt _ (by decide)
theorem bt_testBit (a k : Nat) : a.testBit k = decide (bt a k = 1) := Nat.testBit_eq_decide_div_mod_eq
