/-! what each call answers, and the state behind it -/
def snew (S : SS) (n : Nat) : SS := srow (srow S 0 (fun i => if i = 0 then n else if i = 1 then 0 else if i = 2 then 0 else if i = 3 then 0 else S 0 i)) 6 (fun _ => 0)
def sadd (S : SS) (w : Nat) : SS := sup (sup (sup S 5 (S 0 3) w) 6 (S 0 3) 0) 0 3 (S 0 3 + 1)
def smask (S : SS) (m : Nat) : SS := if m = S 0 1 then S else srow (sup (sup S 0 1 m) 0 2 0) 6 (fun _ => 0)
def srw (S : SS) (w : Nat) : SS := srow (sup (sup S 9 (S 0 2) w) 0 2 (S 0 2 + 1)) 6 (fun _ => 0)
def shelp (S : SS) (c h key : Nat) : SS := sup (sup (sup S 6 c 1) 7 c h) 8 c key
def opn (S : SS) : Nat := nd (2 ^ S 0 0 - 1) (S 0 1)
def wt (S : SS) (w : Nat) : Nat := wyx (S 0 1) (S 4) w (S 0 0)
def chd (S : SS) (w j : Nat) : Nat := pc ((S 5 j ^^^ w) &&& opn S)
def chp (S : SS) (x y : Nat) : Nat := pc ((S 5 x ^^^ S 5 y) &&& opn S)
/-- chances at an age -/
def agS (S : SS) (age j : Nat) : Nat := ag (S 2 j) (S 3 j) age
/-- harmless ways, where key was drawn -/
def hls (S : SS) (key age : Nat) : Nat := hlx (flp (S 0 1) (agS S age)) (sty (S 0 1) (agS S age)) (fun v => amin (fun j => pc (cw S j ^^^ v)) (2 ^ S 0 2)) key (S 0 0) (S 0 0) (cw S key)
def allS (S : SS) : Nat := 2 ^ (3 * pc (opn S))
def failS (S : SS) (key age : Nat) : Nat := allS S - hls S key age
def abv (S : SS) (key e age : Nat) : Bool := decide (allS S * e < failS S key age * 8)
/-- the first age of which p holds -/
def lastS (S : SS) (key e : Nat) : Nat := ff (abv S key e) 41
def sp_cells (S : SS) (x : Int32) : Int32 × SS := if x < nI 4 then (zI (-4), sref S 4) else if nI 14 < x then (zI (-6), sref S 6) else (nI (S 0 0), snew S (tn x))
def sp_chip (S : SS) (x : Int32) : Int32 × SS := if isI (2 ^ S 0 0) x = true then (if S 0 3 < 8 then (nI (S 0 3), sadd S (tn x)) else (zI (-6), sref S 6)) else (zI (-1), sref S 1)
def sp_set (S : SS) (c t v : Int32) : Int32 × SS := if isI 14 c = true then (if isI 3 t = true then (if v < nI (lo2 (tn t)) then (zI (-4), sref S 4) else if nI (hi2 (tn t)) < v then (zI (-6), sref S 6) else (nI (S (2 + tn t) (tn c)), sup S (2 + tn t) (tn c) (tn v))) else (zI (-2), sref S 2)) else (zI (-1), sref S 1)
def sp_chance (S : SS) (c age : Int32) : Int32 × SS := if isI (S 0 0) c = true then (if age < nI 0 then (zI (-4), sref S 4) else if nI 40 < age then (zI (-6), sref S 6) else (nI (if bt (S 0 1) (tn c) = 1 then 0 else agS S (tn age) (tn c)), S)) else (zI (-1), sref S 1)
def sp_mask (S : SS) (x : Int32) : Int32 × SS := if isI (2 ^ S 0 0) x = true then (nI (S 0 1), smask S (tn x)) else (zI (-1), sref S 1)
def sp_maskBy (S : SS) (age most : Int32) : Int32 × SS := if age < nI 0 ∨ most < nI 0 then (zI (-4), sref S 4) else if nI 40 < age ∨ nI 4 < most then (zI (-6), sref S 6) else (nI (lkx (agS S (tn age)) (tn most) (S 0 0)), smask S (lkx (agS S (tn age)) (tn most) (S 0 0)))
def sp_row (S : SS) (x : Int32) : Int32 × SS := if isI (2 ^ S 0 0) x = true then (if hol (cw S) (2 ^ S 0 2) (nd (tn x) (S 0 1)) = true then (zI (-3), sref S 3) else if S 0 2 < 6 then (nI (S 0 2 + 1), srw S (nd (tn x) (S 0 1))) else (zI (-6), sref S 6)) else (zI (-1), sref S 1)
def sp_distance (S : SS) : Int32 × SS := (nI (fbx (fun j => pc (cw S j)) (2 ^ S 0 2)), S)
def sp_codeword (S : SS) (x : Int32) : Int32 × SS := if isI (2 ^ S 0 2) x = true then (nI (cw S (tn x)), S) else (zI (-1), sref S 1)
def sp_mended (S : SS) (x : Int32) : Int32 × SS := if isI (2 ^ S 0 0) x = true then (nI (mend S (tn x)), S) else (zI (-1), sref S 1)
def sp_clear (S : SS) (x : Int32) : Int32 × SS := if isI (2 ^ S 0 0) x = true then (bz (clr S (tn x)), S) else (zI (-1), sref S 1)
def sp_enrol (S : SS) (c key : Int32) : Int32 × SS := if isI (S 0 3) c = true ∧ isI (2 ^ S 0 2) key = true then (nI (nd (S 5 (tn c)) (S 0 1) ^^^ cw S (tn key)), shelp S (tn c) (nd (S 5 (tn c)) (S 0 1) ^^^ cw S (tn key)) (tn key)) else (zI (-1), sref S 1)
def sp_reading (S : SS) (c x : Int32) : Int32 × SS := if isI (S 0 3) c = true ∧ isI (2 ^ S 0 0) x = true then (if S 6 (tn c) = 1 then (nI (mend S (tn x ^^^ S 7 (tn c))), S) else (zI (-3), sref S 3)) else (zI (-1), sref S 1)
def sp_all (S : SS) : Int64 := lN (allS S)
/-- 0: a number; 1, 2: what is thrown -/
def sp_fail (S : SS) (c age : Int32) : Nat × Nat := if isI (S 0 3) c = true ∧ isI 41 age = true then (if S 6 (tn c) = 1 then (0, failS S (S 8 (tn c)) (tn age)) else (2, 0)) else (1, 0)
def sp_lasts (S : SS) (c e : Int32) : Int32 × SS := if isI (S 0 3) c = true then (if S 6 (tn c) = 1 then (if e < nI 0 then (zI (-4), sref S 4) else if nI 8 < e then (zI (-6), sref S 6) else (if lastS S (S 8 (tn c)) (tn e) < 41 then nI (lastS S (S 8 (tn c)) (tn e)) else zI (-9), S)) else (zI (-3), sref S 3)) else (zI (-1), sref S 1)
def bgS (S : SS) (h : Nat) : Nat := amax (fun key => wt S (h ^^^ cw S key)) (2 ^ S 0 2)
def sp_guess (S : SS) (x : Int32) : Int32 × SS := if isI (2 ^ S 0 0) x = true then (nI (bgS S (tn x)), S) else (zI (-1), sref S 1)
def sp_weight (S : SS) (x s : Int32) : Nat × Nat := if isI (2 ^ S 0 0) x = true then (0, if s = 0 then wt S (tn x ^^^ cw S (bgS S (tn x))) else sumN (fun key => wt S (tn x ^^^ cw S key)) (2 ^ S 0 2)) else (1, 0)
def sp_leak (S : SS) : Int32 × SS := (zI ((pc (opn S) : Int) - (S 0 2 : Int)), S)
/-- the even bits behind a one -/
def evS (S : SS) (w : Nat) : Nat := evx (S 0 1) w (S 0 0)
def sp_even (S : SS) (x t : Int32) : Int32 × SS := if isI (2 ^ S 0 0) x = true then (if isI 2 t = true then (nI (if tn t = 0 then Nat.log2 (evS S (tn x)) else evS S (tn x) - 2 ^ Nat.log2 (evS S (tn x))), S) else (zI (-2), sref S 2)) else (zI (-1), sref S 1)
def sp_expected (S : SS) : Int32 × SS := (nI (exx (S 0 1) (S 4) (S 0 0)), S)
def sp_pair (S : SS) (q a : Int32) : Int32 × SS := if isI 16 q = true ∧ isI 2 a = true then (if S 10 (tn q) ≠ 0 ∧ S 10 (tn q) ≠ tn a + 1 then (zI (-3), sref S 3) else (nI (pcnt (sup S 10 (tn q) (tn a + 1) 10)), sup S 10 (tn q) (tn a + 1))) else (zI (-1), sref S 1)
def sp_planes (S : SS) : Int32 × SS := (nI (plc (S 10)), S)
def sp_plane (S : SS) (t : Int32) : Int32 × SS := if isI 5 t = true then (if plc (S 10) = 0 then zI (-9) else zI (plf (S 10) (tn t) + 10), S) else (zI (-2), sref S 2)
def sp_foretold (S : SS) (q : Int32) : Int32 × SS := if isI 16 q = true then (nI (frt (S 10) (tn q)), S) else (zI (-1), sref S 1)
def sp_next (S : SS) : Int32 × SS := (match nq9 (S 10) with
  | none => zI (-9)
  | some x => nI x, S)
def sp_check (S : SS) (q a : Int32) : Int32 × SS := if isI 16 q = true ∧ isI 2 a = true then (if S 10 (tn q) = 0 ∨ S 11 (tn q) = 1 then (zI (-3), sref S 3) else (nI (if S 10 (tn q) = tn a + 1 then 1 else 0), sup S 11 (tn q) 1)) else (zI (-1), sref S 1)
def sp_whose (S : SS) (x : Int32) : Int32 × SS := if isI (2 ^ S 0 0) x = true then (if S 0 3 = 0 then zI (-9) else nI (amin (chd S (tn x)) (S 0 3)), S) else (zI (-1), sref S 1)
def sp_sure (S : SS) (x : Int32) : Int32 × SS := if isI (2 ^ S 0 0) x = true then (bz (lone (chd S (tn x)) (S 0 3)), S) else (zI (-1), sref S 1)
def sp_apart (S : SS) : Int32 × SS := (if S 0 3 < 2 then zI (-9) else nI (mall (chp S) 14 (S 0 3)), S)
def sp_odd (S : SS) (c : Int32) : Int32 × SS := if isI (S 0 0) c = true then (nI (sumN (fun j => bt (S 5 j) (tn c)) (S 0 3)), S) else (zI (-1), sref S 1)
def hpS (S : SS) (j : Nat) : Bool := decide (S 6 j = 1)
def usS (S : SS) (j : Nat) : Bool := decide (S 11 j = 1)
def ctS (S : SS) (t : Nat) : Int32 := match t with
  | 0 => nI (S 0 0)
  | 1 => nI (S 0 3)
  | 2 => nI (S 0 2)
  | 3 => nI (pc (opn S))
  | 4 => nI (S 0 1)
  | 5 => nI (sumN (fun j => if hpS S j then 1 else 0) (S 0 3))
  | 6 => nI (pcnt (S 10))
  | 7 => nI (sumN (fun j => if usS S j then 1 else 0) 16)
  | 8 => zI (-9)
  | 9 => zI (-9)
  | 10 => zI (-9)
  | t + 11 => nI (S 1 (t + 1))
def sp_count (S : SS) (x : Int32) : Int32 × SS := (if isI 17 x = true then ctS S (tn x) else zI (-9), S)
/-! states stay good -/
theorem cwx_lt {rows : Nat → Nat} {key n : Nat} : ∀ {i : Nat}, (∀ j, j < i → rows j < 2 ^ n) → cwx rows key i < 2 ^ n
  | 0, _ => Nat.two_pow_pos n
  | i + 1, h => by
    have h1 := cwx_lt (rows := rows) (key := key) (n := n) (i := i) (fun j hj => h j (by omega))
    simp only [cwx]
    split
    · exact Nat.xor_lt_two_pow h1 (h i (by omega))
    · exact h1
theorem cw_ltn {S : SS} (h : SV S) (key : Nat) : cw S key < 2 ^ S 0 0 := cwx_lt (fun j hj => (h.rows j hj).1)
theorem cw_lt {S : SS} (h : SV S) (key : Nat) : cw S key < 16384 := Nat.lt_of_lt_of_le (cw_ltn h key) h.pn
theorem opn_lt {S : SS} (h : SV S) : opn S < 16384 := ah_lt h.n2
theorem rng {x : Int32} {lo hi : Nat} (h0 : lo < 2147483648) (h1 : hi < 2147483648) (h2 : ¬ x < nI lo) (h3 : ¬ nI hi < x) : ∃ v : Nat, lo ≤ v ∧ v ≤ hi ∧ x = nI v := by
  rcases wr3_cases x lo hi h0 h1 with h | h | h
  · exact absurd h.1 h2
  · exact absurd h.2.1 h3
  · exact h.2.2.2
theorem sp_leaf {p : Int32 × SS} {r : Int32} {S' : SS} {u : Me} (e : p = (r, S')) (h : XI u S') : r = p.1 ∧ XI u p.2 := by rw [e]; exact ⟨rfl, h⟩
theorem sp_leafM {p : Int32 × SS} {r : Int32} {S' : SS} {u : MM} (e : p = (r, S')) (h : MI u S') : r = p.1 ∧ MI u p.2 := by rw [e]; exact ⟨rfl, h⟩
theorem XI.rfs {μ : Me} {S : SS} (h : XI μ S) (j : Nat) (hj : j < 7) : XI (up μ 6 j (nI (S 1 j + 1))) (sref S j) := by
  refine ⟨h.n, h.mask, h.k, h.chips, h.pm, fun i hi => ?_, h.ch, h.we, h.le, h.words, h.chip, h.pair, h.sv⟩
  show upd (μ 6) j (nI (S 1 j + 1)) i = nI (if i = j then S 1 j + 1 else S 1 i)
  by_cases q : i = j
  · rw [if_pos q, q, upd_s]
  · rw [if_neg q, upd_n q, h.ref i hi]
theorem XI.new {μ : Me} {S : SS} (h : XI μ S) (n : Nat) : XI (up (up (up (up μ 0 0 (nI n)) 0 1 (nI 0)) 0 2 (nI 0)) 0 3 (nI 0)) (snew S n) := by
  have h0 : μ 11 0 = nI 0 := by have := h.words 0 (Nat.two_pow_pos _); rw [this]; unfold cw; congr 1; generalize S 0 2 = k; induction k with
    | zero => rfl
    | succ k ih => simp only [cwx]; rw [if_neg (by unfold bt; simp), ih]
  refine ⟨rfl, rfl, rfl, rfl, h.pm, h.ref, h.ch, h.we, h.le, fun key hk => ?_, fun j hj => absurd hj (Nat.not_lt_zero _), h.pair, h.sv⟩
  have e : key = 0 := by have hk : key < 2 ^ 0 := hk; simpa using hk
  subst e
  exact h0
theorem XI.addc {μ : Me} {S : SS} (h : XI μ S) (w : Nat) : XI (up (up (up μ 12 (S 0 3) (nI w)) 13 (S 0 3) (nI 0)) 0 3 (nI (S 0 3 + 1))) (sadd S w) := by
  refine ⟨h.n, h.mask, h.k, rfl, h.pm, h.ref, h.ch, h.we, h.le, h.words, fun j hj => ?_, h.pair, h.sv⟩
  have hj : j < S 0 3 + 1 := hj
  show upd (μ 12) (S 0 3) (nI w) j = nI (if j = S 0 3 then w else S 5 j) ∧ upd (μ 13) (S 0 3) (nI 0) j = bz (decide ((if j = S 0 3 then 0 else S 6 j) = 1)) ∧ ((if j = S 0 3 then 0 else S 6 j) = 1 → μ 14 j = nI (S 7 j) ∧ μ 15 j = nI (S 8 j))
  by_cases q : j = S 0 3
  · rw [if_pos q, if_pos q, q, upd_s, upd_s]
    exact ⟨rfl, rfl, fun e => by simp at e⟩
  · rw [if_neg q, if_neg q, upd_n q, upd_n q]
    exact h.chip j (by omega)
theorem XI.setc0 {μ : Me} {S : SS} (h : XI μ S) (t c v : Nat) (ht : t < 3) : XI (up μ (8 + t) c (nI v)) (sup S (2 + t) c v) := by
  have key : ∀ (f : Nat → Int32) (g : Nat → Nat), (∀ j, j < 14 → f j = nI (g j)) → ∀ j, j < 14 → upd f c (nI v) j = nI (if j = c then v else g j) := by
    intro f g hf j hj
    by_cases q : j = c
    · rw [if_pos q, q, upd_s]
    · rw [if_neg q, upd_n q, hf j hj]
  rcases (show t = 0 ∨ t = 1 ∨ t = 2 by omega) with rfl | rfl | rfl
  · exact ⟨h.n, h.mask, h.k, h.chips, h.pm, h.ref, key _ _ h.ch, h.we, h.le, h.words, h.chip, h.pair, h.sv⟩
  · exact ⟨h.n, h.mask, h.k, h.chips, h.pm, h.ref, h.ch, key _ _ h.we, h.le, h.words, h.chip, h.pair, h.sv⟩
  · exact ⟨h.n, h.mask, h.k, h.chips, h.pm, h.ref, h.ch, h.we, key _ _ h.le, h.words, h.chip, h.pair, h.sv⟩
theorem cwx_0 (rows : Nat → Nat) : ∀ i : Nat, cwx rows 0 i = 0
  | 0 => rfl
  | i + 1 => by simp only [cwx]; rw [if_neg (by unfold bt; simp), cwx_0 rows i]
theorem XI.w0 {μ : Me} {S : SS} (h : XI μ S) : μ 11 0 = nI 0 := by rw [h.words 0 (Nat.two_pow_pos _)]; unfold cw; rw [cwx_0]
theorem XI.maskc {μ : Me} {S : SS} {f : Nat → Int32} (h : XI μ S) (m : Nat) (hm : ¬ m = S 0 1) (hf : ∀ j, j < S 0 3 → f j = nI 0) : XI (setc (up (up μ 0 1 (nI m)) 0 2 (nI 0)) 13 f) (smask S m) := by
  unfold smask
  rw [if_neg hm]
  refine ⟨h.n, rfl, rfl, h.chips, h.pm, h.ref, h.ch, h.we, h.le, fun key hk => ?_, fun j hj => ⟨(h.chip j hj).1, ?_, fun e => ?_⟩, h.pair, h.sv⟩
  · have e : key = 0 := by have hk : key < 2 ^ 0 := hk; simpa using hk
    subst e
    exact h.w0
  · show f j = _
    rw [hf j hj]; rfl
  · have e : 0 = 1 := e
    cases e
theorem cwx_hi {rows rows' : Nat → Nat} {key : Nat} : ∀ {i : Nat}, (∀ j, j < i → rows j = rows' j) → cwx rows key i = cwx rows' key i
  | 0, _ => rfl
  | i + 1, h => by
    simp only [cwx]
    rw [cwx_hi (fun j hj => h j (by omega)), h i (by omega)]
theorem cwx_addlow (rows : Nat → Nat) (key k : Nat) : ∀ i, i ≤ k → cwx rows (2 ^ k + key) i = cwx rows key i
  | 0, _ => rfl
  | i + 1, h => by
    simp only [cwx]
    rw [cwx_addlow rows key k i (by omega), bt_addlow (by omega)]
theorem cw_row (S : SS) (w key : Nat) (h : key < 2 ^ S 0 2) : cw (srw S w) key = cw S key ∧ cw (srw S w) (2 ^ S 0 2 + key) = cw S key ^^^ w := by
  have e : ∀ key', cw (srw S w) key' = if bt key' (S 0 2) = 1 then cwx (S 9) key' (S 0 2) ^^^ w else cwx (S 9) key' (S 0 2) := by
    intro key'
    show cwx (fun i => if i = S 0 2 then w else S 9 i) key' (S 0 2 + 1) = _
    simp only [cwx]
    rw [cwx_hi (rows' := S 9) (fun j hj => by rw [if_neg (by omega)])]
    simp
  constructor
  · rw [e, bt_low h, if_neg (by decide)]; rfl
  · rw [e, bt_add h, if_pos rfl, cwx_addlow (S 9) key (S 0 2) (S 0 2) (Nat.le_refl _)]; rfl
theorem XI.rowc {μ : Me} {S : SS} {f g : Nat → Int32} (h : XI μ S) (w : Nat) (hf : ∀ j, j < 2 ^ S 0 2 → f j = nI (cw S j) ∧ f (2 ^ S 0 2 + j) = nI (cw S j ^^^ w)) (hg : ∀ j, j < S 0 3 → g j = nI 0) : XI (setc (up (setc μ 11 f) 0 2 (nI (S 0 2 + 1))) 13 g) (srw S w) := by
  refine ⟨h.n, h.mask, rfl, h.chips, h.pm, h.ref, h.ch, h.we, h.le, fun key hk => ?_, fun j hj => ⟨(h.chip j hj).1, ?_, fun e => ?_⟩, h.pair, h.sv⟩
  · have hk : key < 2 ^ (S 0 2 + 1) := hk
    rw [Nat.pow_succ] at hk
    show f key = _
    by_cases q : key < 2 ^ S 0 2
    · rw [(cw_row S w key q).1]; exact (hf key q).1
    · obtain ⟨r, rfl⟩ : ∃ r, key = 2 ^ S 0 2 + r := ⟨key - 2 ^ S 0 2, by omega⟩
      rw [(cw_row S w r (by omega)).2]; exact (hf r (by omega)).2
  · show g j = _
    rw [hg j hj]; rfl
  · have e : 0 = 1 := e
    cases e
theorem XI.helpc {μ : Me} {S : SS} (h : XI μ S) (c w key : Nat) : XI (up (up (up μ 13 c (nI 1)) 14 c (nI w)) 15 c (nI key)) (shelp S c w key) := by
  refine ⟨h.n, h.mask, h.k, h.chips, h.pm, h.ref, h.ch, h.we, h.le, h.words, fun j hj => ?_, h.pair, h.sv⟩
  show μ 12 j = nI (S 5 j) ∧ upd (μ 13) c (nI 1) j = bz (decide ((if j = c then 1 else S 6 j) = 1)) ∧ ((if j = c then 1 else S 6 j) = 1 → upd (μ 14) c (nI w) j = nI (if j = c then w else S 7 j) ∧ upd (μ 15) c (nI key) j = nI (if j = c then key else S 8 j))
  have hc := h.chip j hj
  by_cases q : j = c
  · rw [if_pos q, if_pos q, if_pos q, q, upd_s, upd_s, upd_s]
    exact ⟨by rw [← q]; exact hc.1, rfl, fun _ => ⟨rfl, rfl⟩⟩
  · rw [if_neg q, if_neg q, if_neg q, upd_n q, upd_n q, upd_n q]
    exact hc
theorem XI.agS {μ u : Me} {S : SS} (h : XI μ S) (ha : AgS μ u) (h5 : u 0 5 = bz true) (hs : SvF u (S 10)) : XI u S := by
  have e : ∀ c j, c ≠ 19 → c ≠ 20 → c ≠ 21 → c ≠ 22 → ¬ (c = 0 ∧ (j = 5 ∨ j = 6)) → u c j = μ c j := ha
  refine ⟨?_, ?_, ?_, ?_, ?_, ?_, ?_, ?_, ?_, ?_, ?_, ?_, true, h5, fun _ => hs⟩
  · rw [e 0 0 (by decide) (by decide) (by decide) (by decide) (by decide)]; exact h.n
  · rw [e 0 1 (by decide) (by decide) (by decide) (by decide) (by decide)]; exact h.mask
  · rw [e 0 2 (by decide) (by decide) (by decide) (by decide) (by decide)]; exact h.k
  · rw [e 0 3 (by decide) (by decide) (by decide) (by decide) (by decide)]; exact h.chips
  · rw [e 0 4 (by decide) (by decide) (by decide) (by decide) (by decide)]; exact h.pm
  · intro j hj; rw [e 6 j (by decide) (by decide) (by decide) (by decide) (by omega)]; exact h.ref j hj
  · intro j hj; rw [e 8 j (by decide) (by decide) (by decide) (by decide) (by omega)]; exact h.ch j hj
  · intro j hj; rw [e 9 j (by decide) (by decide) (by decide) (by decide) (by omega)]; exact h.we j hj
  · intro j hj; rw [e 10 j (by decide) (by decide) (by decide) (by decide) (by omega)]; exact h.le j hj
  · intro j hj; rw [e 11 j (by decide) (by decide) (by decide) (by decide) (by omega)]; exact h.words j hj
  · intro j hj
    rw [e 12 j (by decide) (by decide) (by decide) (by decide) (by omega), e 13 j (by decide) (by decide) (by decide) (by decide) (by omega), e 14 j (by decide) (by decide) (by decide) (by decide) (by omega), e 15 j (by decide) (by decide) (by decide) (by decide) (by omega)]
    exact h.chip j hj
  · intro j hj
    rw [e 16 j (by decide) (by decide) (by decide) (by decide) (by omega), e 17 j (by decide) (by decide) (by decide) (by decide) (by omega), e 18 j (by decide) (by decide) (by decide) (by decide) (by omega)]
    exact h.pair j hj
theorem XI.fl {μ : Me} {S : SS} (h : XI μ S) (f g : Nat → Int32) : XI (setc (setc μ 23 f) 24 g) S := ⟨h.n, h.mask, h.k, h.chips, h.pm, h.ref, h.ch, h.we, h.le, h.words, h.chip, h.pair, h.sv⟩
theorem pcnt_new {A : Nat → Nat} {q v : Nat} (hq : q < 16) (h0 : A q = 0) (hv : v ≠ 0) : pcnt (fun i => if i = q then v else A i) = pcnt A + 1 := by
  have key : ∀ m, sumN (fun i => if (if i = q then v else A i) ≠ 0 then 1 else 0) m = sumN (fun i => if A i ≠ 0 then 1 else 0) m + (if q < m then 1 else 0) := by
    intro m
    induction m with
    | zero => rfl
    | succ m ih =>
      simp only [sumN]
      rw [ih]
      by_cases e : m = q
      · subst e
        simp [h0, hv]
      · simp only [if_neg e]
        by_cases e2 : q < m
        · rw [if_pos e2, if_pos (show q < m + 1 by omega)]; omega
        · rw [if_neg e2, if_neg (show ¬ q < m + 1 by omega)]; omega
  unfold pcnt
  rw [key 16, if_pos hq]
theorem XI.pairc {μ : Me} {S : SS} (h : XI μ S) (q a : Nat) (hq : q < 16) (h0 : S 10 q = 0) : XI (up (up (up (up μ 16 q (nI 1)) 17 q (nI a)) 0 4 (nI (pcnt (S 10) + 1))) 0 5 (nI 0)) (sup S 10 q (a + 1)) := by
  refine ⟨h.n, h.mask, h.k, h.chips, ?_, h.ref, h.ch, h.we, h.le, h.words, h.chip, fun j hj => ?_, false, rfl, fun e => by cases e⟩
  · show nI (pcnt (S 10) + 1) = nI (pcnt (fun i => if i = q then a + 1 else S 10 i))
    rw [pcnt_new hq h0 (by omega)]
  · show upd (μ 16) q (nI 1) j = bz (decide ((if j = q then a + 1 else S 10 j) ≠ 0)) ∧ ((if j = q then a + 1 else S 10 j) ≠ 0 → upd (μ 17) q (nI a) j = nI ((if j = q then a + 1 else S 10 j) - 1)) ∧ μ 18 j = bz (decide (S 11 j = 1))
    have hp := h.pair j hj
    by_cases e : j = q
    · rw [if_pos e]; subst e; rw [upd_s, upd_s]
      exact ⟨by simp [bz]; rfl, fun _ => rfl, hp.2.2⟩
    · rw [if_neg e, upd_n e, upd_n e]
      exact hp
theorem sup_id (S : SS) (c j : Nat) : sup S c j (S c j) = S := by
  funext c' i
  unfold sup srow
  by_cases h : c' = c
  · rw [if_pos h, h]
    by_cases q : i = j
    · rw [if_pos q, q]
    · rw [if_neg q]
  · rw [if_neg h]
theorem XI.usec {μ : Me} {S : SS} (h : XI μ S) (q : Nat) : XI (up μ 18 q (nI 1)) (sup S 11 q 1) := by
  refine ⟨h.n, h.mask, h.k, h.chips, h.pm, h.ref, h.ch, h.we, h.le, h.words, h.chip, fun j hj => ?_, h.sv⟩
  show μ 16 j = bz (decide (S 10 j ≠ 0)) ∧ (S 10 j ≠ 0 → μ 17 j = nI (S 10 j - 1)) ∧ upd (μ 18) q (nI 1) j = bz (decide ((if j = q then 1 else S 11 j) = 1))
  have hp := h.pair j hj
  by_cases e : j = q
  · rw [if_pos e, e, upd_s]; rw [e] at hp
    exact ⟨hp.1, hp.2.1, rfl⟩
  · rw [if_neg e, upd_n e]
    exact hp
