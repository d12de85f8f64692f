/-! what the system is, in numbers -/
/-- x is one of 0 .. n - 1 -/
def isI (n : Nat) (x : Int32) : Bool := decide (0 ≤ x.toInt) && decide (x.toInt < n)
def tn (x : Int32) : Nat := x.toInt.toNat
theorem isI_T {n : Nat} {x : Int32} (h : isI n x = true) : ∃ v : Nat, v < n ∧ x = nI v := by
  simp only [isI, Bool.and_eq_true, decide_eq_true_eq] at h
  refine ⟨tn x, by unfold tn; omega, ?_⟩
  have h2 : ((tn x : Nat) : Int) = x.toInt := by unfold tn; omega
  rw [zI_nI, h2, zI_toInt_self]
theorem nI_toI {v : Nat} (h : v < 2147483648) : (nI v).toInt = (v : Int) := nI_toInt h
theorem tn_nI {v : Nat} (h : v < 2147483648) : tn (nI v) = v := by unfold tn; rw [nI_toI h]; rfl
theorem isI_nI {n v : Nat} (hv : v < 2147483648) : isI n (nI v) = decide (v < n) := by
  simp only [isI, nI_toI hv]
  have : (0 : Int) ≤ (v : Int) := Int.natCast_nonneg v
  simp [this]
theorem isI_in {n v : Nat} (hn : n ≤ 2147483648) (hv : v < n) : isI n (nI v) = true := by rw [isI_nI (by omega)]; simpa using hv
theorem i32_lt {x y : Int32} : x < y ↔ x.toInt < y.toInt := Int32.lt_iff_toInt_lt
theorem i32_le {x y : Int32} : x ≤ y ↔ x.toInt ≤ y.toInt := Int32.le_iff_toInt_le
theorem i32_0 : (0 : Int32).toInt = 0 := by decide
theorem isI_neg {n : Nat} {x : Int32} (h : x < 0) : isI n x = false := by
  rw [i32_lt, i32_0] at h
  simp only [isI, Bool.and_eq_false_iff, decide_eq_false_iff_not]
  omega
theorem isI_big {n : Nat} {x : Int32} (hn : n < 2147483648) (h : nI n ≤ x) : isI n x = false := by
  rw [i32_le, nI_toI hn] at h
  simp only [isI, Bool.and_eq_false_iff, decide_eq_false_iff_not]
  omega
theorem isI_ok {n : Nat} {x : Int32} (hn : n < 2147483648) (h1 : ¬ x < 0) (h2 : ¬ nI n ≤ x) : isI n x = true := by
  rw [i32_lt, i32_0] at h1
  rw [i32_le, nI_toI hn] at h2
  simp only [isI, Bool.and_eq_true, decide_eq_true_eq]
  omega
theorem isI_f0 {n : Nat} {x : Int32} (h : x < 0) : nI 0 = bz (isI n x) := by rw [isI_neg h]; rfl
theorem isI_f1 {n : Nat} {x : Int32} (hn : n < 2147483648) (h : nI n ≤ x) : nI 0 = bz (isI n x) := by rw [isI_big hn h]; rfl
theorem isI_t1 {n : Nat} {x : Int32} (hn : n < 2147483648) (h1 : ¬ x < 0) (h2 : ¬ nI n ≤ x) : nI 1 = bz (isI n x) := by rw [isI_ok hn h1 h2]; rfl
/-- below lo, above hi, or between -/
def wr3 (x : Int32) (lo hi : Nat) : Int32 := if x < nI lo then (-4) else if nI hi < x then (-6) else 0
theorem wr3_cases (x : Int32) (lo hi : Nat) (h0 : lo < 2147483648) (h1 : hi < 2147483648) : (x < nI lo ∧ wr3 x lo hi = zI (-4)) ∨ (¬ x < nI lo ∧ nI hi < x ∧ wr3 x lo hi = zI (-6)) ∨ (¬ x < nI lo ∧ ¬ nI hi < x ∧ wr3 x lo hi = nI 0 ∧ ∃ v : Nat, lo ≤ v ∧ v ≤ hi ∧ x = nI v) := by
  by_cases h2 : x < nI lo
  · exact Or.inl ⟨h2, by simp only [wr3, if_pos h2]; rfl⟩
  · by_cases h3 : nI hi < x
    · exact Or.inr (Or.inl ⟨h2, h3, by simp only [wr3, if_neg h2, if_pos h3]; rfl⟩)
    · refine Or.inr (Or.inr ⟨h2, h3, by simp only [wr3, if_neg h2, if_neg h3]; rfl, ?_⟩)
      rw [i32_lt, nI_toI h0] at h2
      rw [i32_lt, nI_toI h1] at h3
      have e : ((tn x : Nat) : Int) = x.toInt := by unfold tn; omega
      exact ⟨tn x, by omega, by omega, by rw [zI_nI, e, zI_toInt_self]⟩
theorem i32_nlt {x y : Int32} (h : y ≤ x) : ¬ x < y := by rw [i32_lt]; rw [i32_le] at h; omega
theorem i32_nlt' {x y : Int32} (h : ¬ y ≤ x) : x < y := by rw [i32_lt]; rw [i32_le] at h; omega
theorem i32_nle {x y : Int32} (h : ¬ x ≤ y) : y < x := by rw [i32_lt]; rw [i32_le] at h; omega
/-- a memory with one row changed -/
def setc (μ : Me) (c : Nat) (f : Nat → Int32) : Me := fun c' => if c' = c then f else μ c'
theorem setc_s (μ : Me) (c : Nat) (f : Nat → Int32) : setc μ c f c = f := by simp [setc]
theorem setc_n {μ : Me} {c c' : Nat} {f : Nat → Int32} (h : c' ≠ c) : setc μ c f c' = μ c' := by simp [setc, h]
theorem setc_id (μ : Me) (c : Nat) : setc μ c (μ c) = μ := by funext c'; by_cases h : c' = c <;> simp [setc, h]
theorem upd_s (f : Nat → Int32) (j : Nat) (x : Int32) : upd f j x j = x := by simp [upd]
theorem upd_n {f : Nat → Int32} {j i : Nat} {x : Int32} (h : i ≠ j) : upd f j x i = f i := by simp [upd, h]
/-! states -/
/-- 0: n, mask, k, chips; 1 refusals; 2 chances; 3 wears; 4 leans; 5 nominal; 6 hasHelp; 7 help; 8 keys; 9 rows; 10 answers (0 none, 1, 2); 11 used -/
abbrev SS : Type := Nat → Nat → Nat
def srow (S : SS) (c : Nat) (f : Nat → Nat) : SS := fun c' => if c' = c then f else S c'
def sup (S : SS) (c j v : Nat) : SS := srow S c (fun i => if i = j then v else S c i)
def sref (S : SS) (j : Nat) : SS := sup S 1 j (S 1 j + 1)
/-- how many bits among the lowest k -/
def pcs : Nat → Nat → Nat
  | 0, _ => 0
  | k + 1, w => w % 2 + pcs k (w / 2)
def pc (w : Nat) : Nat := pcs 14 w
/-- the sum of rows by a key's bits -/
def cwx (rows : Nat → Nat) (key : Nat) : Nat → Nat
  | 0 => 0
  | i + 1 => if bt key i = 1 then cwx rows key i ^^^ rows i else cwx rows key i
def cw (S : SS) (key : Nat) : Nat := cwx (S 9) key (S 0 2)
/-- the first of the least, among 0 .. m - 1 -/
def amin (d : Nat → Nat) : Nat → Nat
  | 0 => 0
  | m + 1 => if d m < d (amin d m) then m else amin d m
/-- the least one is there but once -/
def uq (d : Nat → Nat) : Nat → Bool
  | 0 => true
  | 1 => true
  | m + 2 => if d (m + 1) < d (amin d (m + 1)) then true else if d (m + 1) = d (amin d (m + 1)) then false else uq d (m + 1)
/-- the first of the greatest -/
def amax (d : Nat → Nat) : Nat → Nat
  | 0 => 0
  | m + 1 => if d (amax d m) < d m then m else amax d m
def sumN (f : Nat → Nat) : Nat → Nat
  | 0 => 0
  | m + 1 => sumN f m + f m
/-- how far a word is from a key's codeword -/
def dk (S : SS) (w key : Nat) : Nat := pc (w ^^^ cw S key)
def mend (S : SS) (w : Nat) : Nat := amin (dk S (nd w (S 0 1))) (2 ^ S 0 2)
def clr (S : SS) (w : Nat) : Bool := uq (dk S (nd w (S 0 1))) (2 ^ S 0 2)
/-- what is always so -/
def SV (S : SS) : Prop :=
  (4 ≤ S 0 0 ∧ S 0 0 ≤ 14) ∧ S 0 1 < 2 ^ S 0 0 ∧ S 0 2 ≤ 6 ∧ S 0 3 ≤ 8 ∧ (∀ j, j < 14 → S 2 j ≤ 4 ∧ S 3 j ≤ 4 ∧ 1 ≤ S 4 j ∧ S 4 j ≤ 7) ∧
  (∀ j, j < S 0 3 → S 5 j < 2 ^ S 0 0 ∧ S 6 j ≤ 1 ∧ (S 6 j = 1 → S 7 j < 2 ^ S 0 0 ∧ S 7 j &&& S 0 1 = 0 ∧ S 8 j < 2 ^ S 0 2)) ∧
  (∀ j, j < S 0 2 → S 9 j < 2 ^ S 0 0 ∧ S 9 j &&& S 0 1 = 0) ∧ (∀ key, 0 < key → key < 2 ^ S 0 2 → cw S key ≠ 0) ∧ (∀ q, q < 16 → S 10 q ≤ 2 ∧ S 11 q ≤ 1)
def allN (p : Nat → Bool) : Nat → Bool
  | 0 => true
  | m + 1 => allN p m && p m
theorem allN_iff {p : Nat → Bool} : ∀ {m : Nat}, allN p m = true ↔ ∀ i, i < m → p i = true
  | 0 => by simp [allN]
  | m + 1 => by
    simp only [allN, Bool.and_eq_true, allN_iff (m := m)]
    constructor
    · intro h i hi
      rcases Nat.lt_succ_iff_lt_or_eq.mp hi with h1 | h1
      · exact h.1 i h1
      · rw [h1]; exact h.2
    · intro h
      exact ⟨fun i hi => h i (by omega), h m (by omega)⟩
/-! planes -/
def wv (t i : Nat) : Int := match i with
  | 0 => ((t / 343 : Nat) : Int) - 3
  | 1 => ((t / 49 % 7 : Nat) : Int) - 3
  | 2 => ((t / 7 % 7 : Nat) : Int) - 3
  | _ => ((t % 7 : Nat) : Int) - 3
def smx (w : Nat → Int) (q : Nat) : Nat → Int
  | 0 => 0
  | i + 1 => smx w q i + (if bt q i = 1 then w i else - w i)
def sm (t q : Nat) : Int := smx (wv t) q 4
/-- the plane t, c answers as was seen -/
def okp (A : Nat → Nat) (t : Nat) (c : Int) : Bool := allN (fun q => decide (A q = 0 ∨ A q = (if c ≤ sm t q then 2 else 1))) 16
def ce (e : Nat) : Int := (e : Int) - 6
def plc (A : Nat → Nat) : Nat := sumN (fun t => sumN (fun e => if okp A t (ce e) then 1 else 0) 13) 2401
def plo (A : Nat → Nat) (q : Nat) : Nat := sumN (fun t => sumN (fun e => if okp A t (ce e) && decide (ce e ≤ sm t q) then 1 else 0) 13) 2401
/-- the first below m of which p holds; m if there is none -/
def ff (p : Nat → Bool) : Nat → Nat
  | 0 => 0
  | m + 1 => if ff p m < m then ff p m else if p m then m else m + 1
def plx (A : Nat → Nat) : Nat := ff (fun x => okp A (x / 13) (ce (x % 13))) 31213
def plf (A : Nat → Nat) (i : Nat) : Int := if i < 4 then wv (plx A / 13) i else ce (plx A % 13)
/-- how many questions were seen -/
def pcnt (A : Nat → Nat) : Nat := sumN (fun q => if A q ≠ 0 then 1 else 0) 16
/-! the class's memory holds S -/
def XI (μ : Me) (S : SS) : Prop :=
  μ 0 0 = nI (S 0 0) ∧ μ 0 1 = nI (S 0 1) ∧ μ 0 2 = nI (S 0 2) ∧ μ 0 3 = nI (S 0 3) ∧ μ 0 4 = nI (pcnt (S 10)) ∧ (∀ j, j < 7 → μ 6 j = nI (S 1 j)) ∧
  (∀ j, j < 14 → μ 8 j = nI (S 2 j)) ∧ (∀ j, j < 14 → μ 9 j = nI (S 3 j)) ∧ (∀ j, j < 14 → μ 10 j = nI (S 4 j)) ∧ (∀ key, key < 2 ^ S 0 2 → μ 11 key = nI (cw S key)) ∧
  (∀ j, j < S 0 3 → μ 12 j = nI (S 5 j) ∧ μ 13 j = bz (decide (S 6 j = 1)) ∧ (S 6 j = 1 → μ 14 j = nI (S 7 j) ∧ μ 15 j = nI (S 8 j))) ∧
  (∀ q, q < 16 → μ 16 q = bz (decide (S 10 q ≠ 0)) ∧ (S 10 q ≠ 0 → μ 17 q = nI (S 10 q - 1)) ∧ μ 18 q = bz (decide (S 11 q = 1))) ∧
  (∃ b : Bool, μ 0 5 = bz b ∧ (b = true → μ 0 6 = nI (plc (S 10)) ∧ (∀ q, q < 16 → μ 20 q = nI (plo (S 10) q)) ∧ (0 < plc (S 10) → ∀ i, i < 5 → μ 19 i = zI (plf (S 10) i))))
theorem XI.n {μ : Me} {S : SS} (h : XI μ S) : μ 0 0 = nI (S 0 0) := h.1
theorem XI.mask {μ : Me} {S : SS} (h : XI μ S) : μ 0 1 = nI (S 0 1) := h.2.1
theorem XI.k {μ : Me} {S : SS} (h : XI μ S) : μ 0 2 = nI (S 0 2) := h.2.2.1
theorem XI.chips {μ : Me} {S : SS} (h : XI μ S) : μ 0 3 = nI (S 0 3) := h.2.2.2.1
theorem XI.pm {μ : Me} {S : SS} (h : XI μ S) : μ 0 4 = nI (pcnt (S 10)) := h.2.2.2.2.1
theorem XI.ref {μ : Me} {S : SS} (h : XI μ S) : ∀ j, j < 7 → μ 6 j = nI (S 1 j) := h.2.2.2.2.2.1
theorem XI.ch {μ : Me} {S : SS} (h : XI μ S) : ∀ j, j < 14 → μ 8 j = nI (S 2 j) := h.2.2.2.2.2.2.1
theorem XI.we {μ : Me} {S : SS} (h : XI μ S) : ∀ j, j < 14 → μ 9 j = nI (S 3 j) := h.2.2.2.2.2.2.2.1
theorem XI.le {μ : Me} {S : SS} (h : XI μ S) : ∀ j, j < 14 → μ 10 j = nI (S 4 j) := h.2.2.2.2.2.2.2.2.1
theorem XI.words {μ : Me} {S : SS} (h : XI μ S) : ∀ key, key < 2 ^ S 0 2 → μ 11 key = nI (cw S key) := h.2.2.2.2.2.2.2.2.2.1
theorem XI.chip {μ : Me} {S : SS} (h : XI μ S) : ∀ j, j < S 0 3 → μ 12 j = nI (S 5 j) ∧ μ 13 j = bz (decide (S 6 j = 1)) ∧ (S 6 j = 1 → μ 14 j = nI (S 7 j) ∧ μ 15 j = nI (S 8 j)) := h.2.2.2.2.2.2.2.2.2.2.1
theorem XI.pair {μ : Me} {S : SS} (h : XI μ S) : ∀ q, q < 16 → μ 16 q = bz (decide (S 10 q ≠ 0)) ∧ (S 10 q ≠ 0 → μ 17 q = nI (S 10 q - 1)) ∧ μ 18 q = bz (decide (S 11 q = 1)) := h.2.2.2.2.2.2.2.2.2.2.2.1
theorem XI.sv {μ : Me} {S : SS} (h : XI μ S) : ∃ b : Bool, μ 0 5 = bz b ∧ (b = true → μ 0 6 = nI (plc (S 10)) ∧ (∀ q, q < 16 → μ 20 q = nI (plo (S 10) q)) ∧ (0 < plc (S 10) → ∀ i, i < 5 → μ 19 i = zI (plf (S 10) i))) := h.2.2.2.2.2.2.2.2.2.2.2.2
/-! the model's memory holds S -/
def MI (τ : MM) (S : SS) : Prop :=
  τ.1 0 0 = nI (S 0 0) ∧ τ.1 0 2 = nI (S 0 1) ∧ τ.1 0 3 = nI (S 0 2) ∧ τ.1 0 1 = nI (S 0 3) ∧ (∀ j, j < 7 → τ.1 1 j = nI (S 1 j)) ∧
  (∀ j, j < 14 → τ.1 2 j = nI (S 2 j)) ∧ (∀ j, j < 14 → τ.1 3 j = nI (S 3 j)) ∧ (∀ j, j < 14 → τ.1 4 j = nI (S 4 j)) ∧ (∀ j, j < S 0 2 → τ.1 8 j = nI (S 9 j)) ∧
  (∀ j, j < S 0 3 → τ.1 5 j = nI (S 5 j) ∧ τ.1 10 j = bz (decide (S 6 j = 1)) ∧ (S 6 j = 1 → τ.1 6 j = nI (S 7 j) ∧ τ.1 7 j = nI (S 8 j))) ∧
  (∀ q, q < 16 → τ.1 9 q = zI ((S 10 q : Int) - 1) ∧ τ.1 11 q = bz (decide (S 11 q = 1))) ∧
  (∃ b : Bool, τ.1 0 5 = bz b ∧ (b = true → (∀ w, w < 2 ^ S 0 0 → τ.1 12 w = nI (mend S w) ∧ τ.1 14 w = bz (clr S w)) ∧ ∀ key, key < 2 ^ S 0 2 → τ.1 13 key = nI (cw S key)))
theorem MI.n {τ : MM} {S : SS} (h : MI τ S) : τ.1 0 0 = nI (S 0 0) := h.1
theorem MI.mask {τ : MM} {S : SS} (h : MI τ S) : τ.1 0 2 = nI (S 0 1) := h.2.1
theorem MI.k {τ : MM} {S : SS} (h : MI τ S) : τ.1 0 3 = nI (S 0 2) := h.2.2.1
theorem MI.chips {τ : MM} {S : SS} (h : MI τ S) : τ.1 0 1 = nI (S 0 3) := h.2.2.2.1
theorem MI.ref {τ : MM} {S : SS} (h : MI τ S) : ∀ j, j < 7 → τ.1 1 j = nI (S 1 j) := h.2.2.2.2.1
theorem MI.ch {τ : MM} {S : SS} (h : MI τ S) : ∀ j, j < 14 → τ.1 2 j = nI (S 2 j) := h.2.2.2.2.2.1
theorem MI.we {τ : MM} {S : SS} (h : MI τ S) : ∀ j, j < 14 → τ.1 3 j = nI (S 3 j) := h.2.2.2.2.2.2.1
theorem MI.le {τ : MM} {S : SS} (h : MI τ S) : ∀ j, j < 14 → τ.1 4 j = nI (S 4 j) := h.2.2.2.2.2.2.2.1
theorem MI.rows {τ : MM} {S : SS} (h : MI τ S) : ∀ j, j < S 0 2 → τ.1 8 j = nI (S 9 j) := h.2.2.2.2.2.2.2.2.1
theorem MI.chip {τ : MM} {S : SS} (h : MI τ S) : ∀ j, j < S 0 3 → τ.1 5 j = nI (S 5 j) ∧ τ.1 10 j = bz (decide (S 6 j = 1)) ∧ (S 6 j = 1 → τ.1 6 j = nI (S 7 j) ∧ τ.1 7 j = nI (S 8 j)) := h.2.2.2.2.2.2.2.2.2.1
theorem MI.pair {τ : MM} {S : SS} (h : MI τ S) : ∀ q, q < 16 → τ.1 9 q = zI ((S 10 q : Int) - 1) ∧ τ.1 11 q = bz (decide (S 11 q = 1)) := h.2.2.2.2.2.2.2.2.2.2.1
theorem MI.made {τ : MM} {S : SS} (h : MI τ S) : ∃ b : Bool, τ.1 0 5 = bz b ∧ (b = true → (∀ w, w < 2 ^ S 0 0 → τ.1 12 w = nI (mend S w) ∧ τ.1 14 w = bz (clr S w)) ∧ ∀ key, key < 2 ^ S 0 2 → τ.1 13 key = nI (cw S key)) := h.2.2.2.2.2.2.2.2.2.2.2
theorem SV.n1 {S : SS} (h : SV S) : 4 ≤ S 0 0 := h.1.1
theorem SV.n2 {S : SS} (h : SV S) : S 0 0 ≤ 14 := h.1.2
theorem SV.mask {S : SS} (h : SV S) : S 0 1 < 2 ^ S 0 0 := h.2.1
theorem SV.k {S : SS} (h : SV S) : S 0 2 ≤ 6 := h.2.2.1
theorem SV.chips {S : SS} (h : SV S) : S 0 3 ≤ 8 := h.2.2.2.1
theorem SV.told {S : SS} (h : SV S) : ∀ j, j < 14 → S 2 j ≤ 4 ∧ S 3 j ≤ 4 ∧ 1 ≤ S 4 j ∧ S 4 j ≤ 7 := h.2.2.2.2.1
theorem SV.chip {S : SS} (h : SV S) : ∀ j, j < S 0 3 → S 5 j < 2 ^ S 0 0 ∧ S 6 j ≤ 1 ∧ (S 6 j = 1 → S 7 j < 2 ^ S 0 0 ∧ S 7 j &&& S 0 1 = 0 ∧ S 8 j < 2 ^ S 0 2) := h.2.2.2.2.2.1
theorem SV.rows {S : SS} (h : SV S) : ∀ j, j < S 0 2 → S 9 j < 2 ^ S 0 0 ∧ S 9 j &&& S 0 1 = 0 := h.2.2.2.2.2.2.1
theorem SV.ind {S : SS} (h : SV S) : ∀ key, 0 < key → key < 2 ^ S 0 2 → cw S key ≠ 0 := h.2.2.2.2.2.2.2.1
theorem SV.pair {S : SS} (h : SV S) : ∀ q, q < 16 → S 10 q ≤ 2 ∧ S 11 q ≤ 1 := h.2.2.2.2.2.2.2.2
theorem SV.pn {S : SS} (h : SV S) : 2 ^ S 0 0 ≤ 16384 := Nat.pow_le_pow_right (by decide) h.n2
theorem SV.pk {S : SS} (h : SV S) : 2 ^ S 0 2 ≤ 64 := Nat.pow_le_pow_right (by decide) h.k
theorem SV.pk1 (S : SS) : 1 ≤ 2 ^ S 0 2 := Nat.one_le_two_pow
