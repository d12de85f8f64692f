/-! the model: memories -/
def msetc (τ : MM) (c : Nat) (f : Nat → Int32) : MM := (setc τ.1 c f, τ.2)
theorem MI.rfs {τ : MM} {S : SS} (h : MI τ S) (j : Nat) (hj : j < 7) : MI (mup τ 1 j (nI (S 1 j + 1))) (sref S j) := by
  refine ⟨h.n, h.mask, h.k, h.chips, fun i hi => ?_, h.ch, h.we, h.le, h.rows, h.chip, h.pair, h.made⟩
  show upd (τ.1 1) j (nI (S 1 j + 1)) i = nI (if i = j then S 1 j + 1 else S 1 i)
  by_cases q : i = j
  · rw [if_pos q, q, upd_s]
  · rw [if_neg q, upd_n q, h.ref i hi]
theorem MI.new {τ : MM} {S : SS} (h : MI τ S) (n : Nat) (f : Nat → Int32) : MI (msetc (mup (mup (mup (mup (mup τ 0 0 (nI n)) 0 1 (nI 0)) 0 2 (nI 0)) 0 3 (nI 0)) 0 5 (nI 0)) 10 f) (snew S n) :=
  ⟨rfl, rfl, rfl, rfl, h.ref, h.ch, h.we, h.le, fun j hj => absurd hj (Nat.not_lt_zero _), fun j hj => absurd hj (Nat.not_lt_zero _), h.pair, false, rfl, fun e => by cases e⟩
theorem MI.addc {τ : MM} {S : SS} (h : MI τ S) (w : Nat) : MI (mup (mup (mup τ 5 (S 0 3) (nI w)) 10 (S 0 3) (nI 0)) 0 1 (nI (S 0 3 + 1))) (sadd S w) := by
  refine ⟨h.n, h.mask, h.k, rfl, h.ref, h.ch, h.we, h.le, h.rows, fun j hj => ?_, h.pair, h.made⟩
  have hj : j < S 0 3 + 1 := hj
  show upd (τ.1 5) (S 0 3) (nI w) j = nI (if j = S 0 3 then w else S 5 j) ∧ upd (τ.1 10) (S 0 3) (nI 0) j = bz (decide ((if j = S 0 3 then 0 else S 6 j) = 1)) ∧ ((if j = S 0 3 then 0 else S 6 j) = 1 → τ.1 6 j = nI (S 7 j) ∧ τ.1 7 j = nI (S 8 j))
  by_cases q : j = S 0 3
  · rw [if_pos q, if_pos q, q, upd_s, upd_s]
    exact ⟨rfl, rfl, fun e => by simp at e⟩
  · rw [if_neg q, if_neg q, upd_n q, upd_n q]
    exact h.chip j (by omega)
theorem updn_all {f : Nat → Int32} {g : Nat → Nat} {c v : Nat} (hf : ∀ j, j < 14 → f j = nI (g j)) : ∀ j, j < 14 → upd f c (nI v) j = nI (if j = c then v else g j) := by
  intro j hj
  by_cases q : j = c
  · rw [if_pos q, q, upd_s]
  · rw [if_neg q, upd_n q, hf j hj]
theorem MI.set0 {τ : MM} {S : SS} (h : MI τ S) (c v : Nat) : MI (mup τ 2 c (nI v)) (sup S 2 c v) := ⟨h.n, h.mask, h.k, h.chips, h.ref, updn_all h.ch, h.we, h.le, h.rows, h.chip, h.pair, h.made⟩
theorem MI.set1 {τ : MM} {S : SS} (h : MI τ S) (c v : Nat) : MI (mup τ 3 c (nI v)) (sup S 3 c v) := ⟨h.n, h.mask, h.k, h.chips, h.ref, h.ch, updn_all h.we, h.le, h.rows, h.chip, h.pair, h.made⟩
theorem MI.set2 {τ : MM} {S : SS} (h : MI τ S) (c v : Nat) : MI (mup τ 4 c (nI v)) (sup S 4 c v) := ⟨h.n, h.mask, h.k, h.chips, h.ref, h.ch, h.we, updn_all h.le, h.rows, h.chip, h.pair, h.made⟩
theorem MI.maskc {τ : MM} {S : SS} {f : Nat → Int32} (h : MI τ S) (m : Nat) (hm : ¬ m = S 0 1) (hc : S 0 3 ≤ 8) (hf : ∀ j, j < 8 → f j = nI 0) : MI (msetc (mup (mup (mup τ 0 2 (nI m)) 0 3 (nI 0)) 0 5 (nI 0)) 10 f) (smask S m) := by
  unfold smask
  rw [if_neg hm]
  refine ⟨h.n, rfl, rfl, h.chips, h.ref, h.ch, h.we, h.le, fun j hj => absurd hj (Nat.not_lt_zero _), fun j hj => ⟨(h.chip j hj).1, ?_, fun e => ?_⟩, h.pair, false, rfl, fun e => by cases e⟩
  · have hj : j < S 0 3 := hj
    show f j = _
    rw [hf j (by omega)]; rfl
  · have e : 0 = 1 := e
    cases e
theorem MI.rowc {τ : MM} {S : SS} {f : Nat → Int32} (h : MI τ S) (w : Nat) (hc : S 0 3 ≤ 8) (hf : ∀ j, j < 8 → f j = nI 0) : MI (msetc (mup (mup (mup τ 8 (S 0 2) (nI w)) 0 3 (nI (S 0 2 + 1))) 0 5 (nI 0)) 10 f) (srw S w) := by
  refine ⟨h.n, h.mask, rfl, h.chips, h.ref, h.ch, h.we, h.le, fun j hj => ?_, fun j hj => ⟨(h.chip j hj).1, ?_, fun e => ?_⟩, h.pair, false, rfl, fun e => by cases e⟩
  · have hj : j < S 0 2 + 1 := hj
    show upd (τ.1 8) (S 0 2) (nI w) j = nI (if j = S 0 2 then w else S 9 j)
    by_cases q : j = S 0 2
    · rw [if_pos q, q, upd_s]
    · rw [if_neg q, upd_n q, h.rows j (by omega)]
  · have hj : j < S 0 3 := hj
    show f j = _
    rw [hf j (by omega)]; rfl
  · have e : 0 = 1 := e
    cases e
theorem MI.helpc {τ : MM} {S : SS} (h : MI τ S) (c w key : Nat) : MI (mup (mup (mup τ 6 c (nI w)) 7 c (nI key)) 10 c (nI 1)) (shelp S c w key) := by
  refine ⟨h.n, h.mask, h.k, h.chips, h.ref, h.ch, h.we, h.le, h.rows, fun j hj => ?_, h.pair, h.made⟩
  show τ.1 5 j = nI (S 5 j) ∧ upd (τ.1 10) c (nI 1) j = bz (decide ((if j = c then 1 else S 6 j) = 1)) ∧ ((if j = c then 1 else S 6 j) = 1 → upd (τ.1 6) c (nI w) j = nI (if j = c then w else S 7 j) ∧ upd (τ.1 7) c (nI key) j = nI (if j = c then key else S 8 j))
  have hc := h.chip j hj
  by_cases q : j = c
  · rw [if_pos q, if_pos q, if_pos q, q, upd_s, upd_s, upd_s]
    exact ⟨by rw [← q]; exact hc.1, rfl, fun _ => ⟨rfl, rfl⟩⟩
  · rw [if_neg q, if_neg q, if_neg q, upd_n q, upd_n q, upd_n q]
    exact hc
theorem MI.pairc {τ : MM} {S : SS} (h : MI τ S) (q a : Nat) : MI (mup τ 9 q (nI a)) (sup S 10 q (a + 1)) := by
  refine ⟨h.n, h.mask, h.k, h.chips, h.ref, h.ch, h.we, h.le, h.rows, h.chip, fun j hj => ?_, h.made⟩
  show upd (τ.1 9) q (nI a) j = zI (((if j = q then a + 1 else S 10 j : Nat) : Int) - 1) ∧ τ.1 11 j = bz (decide (S 11 j = 1))
  have hp := h.pair j hj
  by_cases e : j = q
  · rw [if_pos e, e, upd_s]; rw [e] at hp
    exact ⟨by rw [zI_nI]; exact congrArg zI (by omega), hp.2⟩
  · rw [if_neg e, upd_n e]
    exact hp
theorem MI.usec {τ : MM} {S : SS} (h : MI τ S) (q : Nat) : MI (mup τ 11 q (nI 1)) (sup S 11 q 1) := by
  refine ⟨h.n, h.mask, h.k, h.chips, h.ref, h.ch, h.we, h.le, h.rows, h.chip, fun j hj => ?_, h.made⟩
  show τ.1 9 j = zI ((S 10 j : Int) - 1) ∧ upd (τ.1 11) q (nI 1) j = bz (decide ((if j = q then 1 else S 11 j) = 1))
  have hp := h.pair j hj
  by_cases e : j = q
  · rw [if_pos e, e, upd_s]; rw [e] at hp
    exact ⟨hp.1, rfl⟩
  · rw [if_neg e, upd_n e]
    exact hp
theorem MI.thr {τ : MM} {S : SS} (h : MI τ S) (x : Int32) : MI (mup τ 0 4 x) S := ⟨h.n, h.mask, h.k, h.chips, h.ref, h.ch, h.we, h.le, h.rows, h.chip, h.pair, h.made⟩
/-- what is so even while the table is being made -/
def MB (τ : MM) (S : SS) : Prop := τ.1 0 0 = nI (S 0 0) ∧ τ.1 0 2 = nI (S 0 1) ∧ τ.1 0 3 = nI (S 0 2) ∧ (∀ j, j < S 0 2 → τ.1 8 j = nI (S 9 j))
theorem MB.n {τ : MM} {S : SS} (h : MB τ S) : τ.1 0 0 = nI (S 0 0) := h.1
theorem MB.mask {τ : MM} {S : SS} (h : MB τ S) : τ.1 0 2 = nI (S 0 1) := h.2.1
theorem MB.k {τ : MM} {S : SS} (h : MB τ S) : τ.1 0 3 = nI (S 0 2) := h.2.2.1
theorem MB.rows {τ : MM} {S : SS} (h : MB τ S) : ∀ j, j < S 0 2 → τ.1 8 j = nI (S 9 j) := h.2.2.2
theorem MI.mb {τ : MM} {S : SS} (h : MI τ S) : MB τ S := ⟨h.n, h.mask, h.k, h.rows⟩
def cof (S : SS) (age i : Nat) : Nat := if bt (S 0 1) i = 1 then 0 else agS S age i
theorem hol_T {W : Nat → Nat} {m w i : Nat} (hi : i < m) (h : W i = w) : hol W m w = true := by
  unfold hol
  rw [allN_F hi (by simp [h])]; rfl
theorem hol_F {W : Nat → Nat} {m w : Nat} (h : ∀ i, i < m → W i ≠ w) : hol W m w = false := by
  unfold hol
  rw [allN_iff.mpr (fun i hi => by simp [h i hi])]; rfl
theorem fbx_1 (d : Nat → Nat) : fbx d 1 = 0 := by simp [fbx]
theorem fbx_pos {d : Nat → Nat} {m : Nat} (h : ∀ i, 0 < i → i < m → 0 < d i) : ∀ i, 2 ≤ i → i ≤ m → 0 < fbx d i
  | 0, h2, _ => absurd h2 (by omega)
  | 1, h2, _ => absurd h2 (by omega)
  | i + 2, _, hm => by
    have hd := h (i + 1) (by omega) (by omega)
    show 0 < (if i + 1 = 0 then 0 else if i + 1 = 1 ∨ d (i + 1) < fbx d (i + 1) then d (i + 1) else fbx d (i + 1))
    rw [if_neg (by omega)]
    split
    · exact hd
    · rename_i q
      exact fbx_pos h (i + 1) (by omega) (by omega)
theorem fbx_S (d : Nat → Nat) {i : Nat} (h : 0 < i) : fbx d (i + 1) = if i = 1 ∨ d i < fbx d i then d i else fbx d i := by
  show (if i = 0 then 0 else _) = _
  rw [if_neg (by omega)]

set_option maxHeartbeats 4000000 in
set_option maxRecDepth 100000 in
theorem c_X6_isIn {l : Launch} {D : va_G} {c : Nat → ClassId} {x : Int32} {m : Nat} (hm : m < 2147483648) : KI l D (tyE c) w0 yX6_isIn cX6_isIn 2 .boolean (rmL 1) [.int x, .int (nI m)] () (fun r u => r = bz (isI m x) ∧ u = ()) := by
  refine x_enterI (by decide) (Nat.le_of_ble_eq_true rfl) (fun F hl hD hn hRm hC hR => ?_)
  subst hl hD
  change XW F 0 0 (w0 ()) [(0, .int x), (1, .int (nI m))] 0 []
  change FC F cX6_isIn RX6 (tyE c) at hC
  refine x_iload_n hC 0 rfl dX6_isIn_0 ?_
  refine x_if_lt hC 13 dX6_isIn_1 rfl (fun h1 => ?_) (fun h1 => ?_)
  · -- 1 T
    refine x_iconst hC (v := (nI 0)) dX6_isIn_13 rfl ?_
    exact x_zret hC hR dX6_isIn_14 rfl (⟨isI_f0 h1, rfl⟩)
  · -- 1 F
    refine x_iload_n hC 0 rfl dX6_isIn_4 ?_
    refine x_iload_n hC 1 rfl dX6_isIn_5 ?_
    refine x_icmp_ge hC 13 dX6_isIn_6 rfl (fun h6 => ?_) (fun h6 => ?_)
    · -- 6 T
      refine x_iconst hC (v := (nI 0)) dX6_isIn_13 rfl ?_
      exact x_zret hC hR dX6_isIn_14 rfl (⟨isI_f1 hm h6, rfl⟩)
    · -- 6 F
      refine x_iconst hC (v := (nI 1)) dX6_isIn_9 rfl ?_
      refine x_goto hC 14 dX6_isIn_10 rfl ?_
      exact x_zret hC hR dX6_isIn_14 rfl (⟨isI_t1 hm h1 h6, rfl⟩)
set_option maxHeartbeats 4000000 in
set_option maxRecDepth 100000 in
theorem c_X6_wrong {l : Launch} {D : va_G} {c : Nat → ClassId} {x : Int32} {lo hi : Nat} : KI l D (tyE c) w0 yX6_wrong cX6_wrong 3 .int (rmL 1) [.int x, .int (nI lo), .int (nI hi)] () (fun r u => r = wr3 x lo hi ∧ u = ()) := by
  refine x_enterI (by decide) (Nat.le_of_ble_eq_true rfl) (fun F hl hD hn hRm hC hR => ?_)
  subst hl hD
  change XW F 0 0 (w0 ()) [(0, .int x), (1, .int (nI lo)), (2, .int (nI hi))] 0 []
  change FC F cX6_wrong RX6 (tyE c) at hC
  refine x_iload_n hC 0 rfl dX6_wrong_0 ?_
  refine x_iload_n hC 1 rfl dX6_wrong_1 ?_
  refine x_icmp_ge hC 10 dX6_wrong_2 rfl (fun h2 => ?_) (fun h2 => ?_)
  · -- 2 T
    refine x_iload_n hC 0 rfl dX6_wrong_10 ?_
    refine x_iload_n hC 2 rfl dX6_wrong_11 ?_
    refine x_icmp_le hC 20 dX6_wrong_12 rfl (fun h12 => ?_) (fun h12 => ?_)
    · -- 12 T
      refine x_iconst hC (v := (nI 0)) dX6_wrong_20 rfl ?_
      exact x_iret hC hR dX6_wrong_21 (⟨by rw [wr3, if_neg (i32_nlt h2), if_neg (i32_nlt h12)]; rfl, rfl⟩)
    · -- 12 F
      refine x_bipush hC (v := (zI (-6))) dX6_wrong_15 rfl ?_
      refine x_goto hC 21 dX6_wrong_17 rfl ?_
      exact x_iret hC hR dX6_wrong_21 (⟨by rw [wr3, if_neg (i32_nlt h2), if_pos (i32_nle h12)]; rfl, rfl⟩)
  · -- 2 F
    refine x_bipush hC (v := (zI (-4))) dX6_wrong_5 rfl ?_
    refine x_goto hC 21 dX6_wrong_7 rfl ?_
    exact x_iret hC hR dX6_wrong_21 (⟨by rw [wr3, if_pos (i32_nlt' h2)]; rfl, rfl⟩)
set_option maxHeartbeats 4000000 in
set_option maxRecDepth 100000 in
theorem c_X6_bits {l : Launch} {D : va_G} {c : Nat → ClassId} {w : Nat} (hw : w < 16384) : KI l D (tyE c) w0 yX6_bits cX6_bits 3 .int (rmL 1) [.int (nI w)] () (fun r u => r = nI (pc w) ∧ u = ()) := by
  refine x_enterI (by decide) (Nat.le_of_ble_eq_true rfl) (fun F hl hD hn hRm hC hR => ?_)
  subst hl hD
  change XW F 0 0 (w0 ()) [(0, .int (nI w))] 0 []
  change FC F cX6_bits RX6 (tyE c) at hC
  refine x_iconst hC (v := (nI 0)) dX6_bits_0 rfl ?_
  refine x_istore_n hC [(1, .int (nI 0)), (0, .int (nI w))] rfl (lt_n hn rfl) dX6_bits_1 ?_
  refine x_iload_n hC 1 rfl dX6_bits_2 ?_
  refine x_istore_n hC [(2, .int (nI w)), (1, .int (nI 0)), (0, .int (nI w))] rfl (lt_n hn rfl) dX6_bits_3 ?_
  refine x_lv [2, 1, 0] rfl ?_
  have L4 : ∀ (N4 : Nat) (s : Nat) (v : Nat), pc v < N4 → (v < 16384) → (s + pc v = pc w) → XW F 0 0 (w0 ()) [(0, .int (nI w)), (1, .int (nI s)), (2, .int (nI v))] 4 [] := by
    intro N4
    induction N4 with
    | zero => intro s v hN4 hv hs; exact absurd hN4 (by omega)
    | succ N4 ih4 =>
      intro s v hN4 hv hs
      refine x_iload_n hC 2 rfl dX6_bits_4 ?_
      refine x_if_eqN hC 20 dX6_bits_5 rfl (by omega) (fun h5 => ?_) (fun h5 => ?_)
      · -- 5 T
        refine x_iload_n hC 1 rfl dX6_bits_20 ?_
        exact x_iret hC hR dX6_bits_21 (⟨by rw [h5, pc_0] at hs; rw [← hs]; rfl, rfl⟩)
      · -- 5 F
        have hkn := pc_kern h5 hv
        refine x_iinc hC (z := 1) (v := (nI (s + 1))) 1 rfl (nI_add s 1) [(1, .int (nI (s + 1))), (0, .int (nI w)), (2, .int (nI v))] rfl (lt_n hn rfl) dX6_bits_8 ?_
        refine x_iload_n hC 2 rfl dX6_bits_11 ?_
        refine x_iload_n hC 2 rfl dX6_bits_12 ?_
        refine x_iconst hC (v := (nI 1)) dX6_bits_13 rfl ?_
        refine x_isubE hC (z := (nI (v - 1))) (pk_sub (by omega)) dX6_bits_14 ?_
        refine x_iandE hC (z := (nI (v &&& (v - 1)))) (nI_and _ _) dX6_bits_15 ?_
        refine x_istore_n hC [(2, .int (nI (v &&& (v - 1)))), (1, .int (nI (s + 1))), (0, .int (nI w))] rfl (lt_n hn rfl) dX6_bits_16 ?_
        refine x_goto hC 4 dX6_bits_17 rfl ?_
        refine x_lv [2, 1, 0] rfl ?_
        exact ih4 (s + 1) (v &&& (v - 1)) (by omega) (Nat.lt_of_le_of_lt Nat.and_le_left hv) (by omega)
  exact L4 _ 0 w (Nat.lt_succ_self _) hw (by omega)
set_option maxHeartbeats 4000000 in
set_option maxRecDepth 100000 in
theorem c_X6_open {l : Launch} {D : va_G} {c : Nat → ClassId} {b : Nat → Nat} {τ : MM} {S : SS} (hI : MB τ S) (hV : SV S)  : KI l D (tyE c) (mw c b) yX6_open cX6_open 1 .int (rmL 1) [.ref (b 0)] τ (fun r u => r = nI (opn S) ∧ τ = u) := by
  refine x_enterI (by decide) (Nat.le_of_ble_eq_true rfl) (fun F hl hD hn hRm hC hR => ?_)
  subst hl hD
  change XW F 0 0 (mw c b τ) [(0, .ref (b 0))] 0 []
  change FC F cX6_open RX6 (tyE c) at hC
  have hn1 := hV.n1
  have hn2 := hV.n2
  have hpn := hV.pn
  have hk6 := hV.k
  have hpk := hV.pk
  have hpk1 := SV.pk1 S
  have hch8 := hV.chips
  have hmk := hV.mask
  have hmk31 : S 0 1 < 2 ^ 31 := by omega
  refine x_iconst hC (v := (nI 1)) dX6_open_0 rfl ?_
  refine x_aload_n hC 0 rfl dX6_open_1 ?_
  refine x_get hC fl_X6_44 dX6_open_2 0 rfl (v := .int (nI (S 0 0))) (xv hI.n) ?_
  refine x_ishlE hC (z := (nI (2 ^ (S 0 0)))) (nI_shl1 (by omega)) dX6_open_5 ?_
  refine x_iconst hC (v := (nI 1)) dX6_open_6 rfl ?_
  refine x_isubE hC (z := (nI ((2 ^ (S 0 0)) - 1))) (pk_sub (Nat.one_le_two_pow)) dX6_open_7 ?_
  refine x_aload_n hC 0 rfl dX6_open_8 ?_
  refine x_get hC fl_X6_77 dX6_open_9 0 rfl (v := .int (nI (S 0 1))) (xv hI.mask) ?_
  refine x_iconst hC (v := (zI (-1))) dX6_open_12 rfl ?_
  refine x_ixorE hC (z := (nI (S 0 1) ^^^ (-1))) (rfl) dX6_open_13 ?_
  refine x_iandE hC (z := (nI (nd ((2 ^ (S 0 0)) - 1) (S 0 1)))) (nI_andc _ _) dX6_open_14 ?_
  exact x_iret hC hR dX6_open_15 (⟨rfl, rfl⟩)
set_option maxHeartbeats 4000000 in
set_option maxRecDepth 100000 in
theorem c_X6_isWord {l : Launch} {D : va_G} {c : Nat → ClassId} {b : Nat → Nat} {τ : MM} {x : Int32} {S : SS} (hI : MI τ S) (hV : SV S)  : KI l D (tyE c) (mw c b) yX6_isWord cX6_isWord 2 .boolean (rmL 2) [.ref (b 0), .int x] τ (fun r u => r = bz (isI (2 ^ S 0 0) x) ∧ τ = u) := by
  refine x_enterI (by decide) (Nat.le_of_ble_eq_true rfl) (fun F hl hD hn hRm hC hR => ?_)
  subst hl hD
  change XW F 0 0 (mw c b τ) [(0, .ref (b 0)), (1, .int x)] 0 []
  change FC F cX6_isWord RX6 (tyE c) at hC
  have hn1 := hV.n1
  have hn2 := hV.n2
  have hpn := hV.pn
  have hk6 := hV.k
  have hpk := hV.pk
  have hpk1 := SV.pk1 S
  have hch8 := hV.chips
  have hmk := hV.mask
  have hmk31 : S 0 1 < 2 ^ 31 := by omega
  refine x_iload_n hC 1 rfl dX6_isWord_0 ?_
  refine x_iconst hC (v := (nI 1)) dX6_isWord_1 rfl ?_
  refine x_aload_n hC 0 rfl dX6_isWord_2 ?_
  refine x_get hC fl_X6_44 dX6_isWord_3 0 rfl (v := .int (nI (S 0 0))) (xv hI.n) ?_
  refine x_ishlE hC (z := (nI (2 ^ (S 0 0)))) (nI_shl1 (by omega)) dX6_isWord_6 ?_
  refine x_callN hC cs_X6_73 (c_X6_isIn (x := x) (m := (2 ^ (S 0 0)))  (by first | assumption | exact hI.mb | omega)) dX6_isWord_7 [] rfl (Nat.le_of_ble_eq_true rfl) rfl (rm_ok hRm (by decide) (by decide)) ?_
  exact x_zret hC hR dX6_isWord_10 (bz_n _) (⟨rfl, rfl⟩)
set_option maxHeartbeats 4000000 in
set_option maxRecDepth 100000 in
theorem c_X6_isKey {l : Launch} {D : va_G} {c : Nat → ClassId} {b : Nat → Nat} {τ : MM} {x : Int32} {S : SS} (hI : MI τ S) (hV : SV S)  : KI l D (tyE c) (mw c b) yX6_isKey cX6_isKey 2 .boolean (rmL 2) [.ref (b 0), .int x] τ (fun r u => r = bz (isI (2 ^ S 0 2) x) ∧ τ = u) := by
  refine x_enterI (by decide) (Nat.le_of_ble_eq_true rfl) (fun F hl hD hn hRm hC hR => ?_)
  subst hl hD
  change XW F 0 0 (mw c b τ) [(0, .ref (b 0)), (1, .int x)] 0 []
  change FC F cX6_isKey RX6 (tyE c) at hC
  have hn1 := hV.n1
  have hn2 := hV.n2
  have hpn := hV.pn
  have hk6 := hV.k
  have hpk := hV.pk
  have hpk1 := SV.pk1 S
  have hch8 := hV.chips
  have hmk := hV.mask
  have hmk31 : S 0 1 < 2 ^ 31 := by omega
  refine x_iload_n hC 1 rfl dX6_isKey_0 ?_
  refine x_iconst hC (v := (nI 1)) dX6_isKey_1 rfl ?_
  refine x_aload_n hC 0 rfl dX6_isKey_2 ?_
  refine x_get hC fl_X6_80 dX6_isKey_3 0 rfl (v := .int (nI (S 0 2))) (xv hI.k) ?_
  refine x_ishlE hC (z := (nI (2 ^ (S 0 2)))) (nI_shl1 (by omega)) dX6_isKey_6 ?_
  refine x_callN hC cs_X6_73 (c_X6_isIn (x := x) (m := (2 ^ (S 0 2)))  (by first | assumption | exact hI.mb | omega)) dX6_isKey_7 [] rfl (Nat.le_of_ble_eq_true rfl) rfl (rm_ok hRm (by decide) (by decide)) ?_
  exact x_zret hC hR dX6_isKey_10 (bz_n _) (⟨rfl, rfl⟩)
set_option maxHeartbeats 4000000 in
set_option maxRecDepth 100000 in
theorem c_X6_isChip {l : Launch} {D : va_G} {c : Nat → ClassId} {b : Nat → Nat} {τ : MM} {x : Int32} {S : SS} (hI : MI τ S) (hV : SV S)  : KI l D (tyE c) (mw c b) yX6_isChip cX6_isChip 2 .boolean (rmL 2) [.ref (b 0), .int x] τ (fun r u => r = bz (isI (S 0 3) x) ∧ τ = u) := by
  refine x_enterI (by decide) (Nat.le_of_ble_eq_true rfl) (fun F hl hD hn hRm hC hR => ?_)
  subst hl hD
  change XW F 0 0 (mw c b τ) [(0, .ref (b 0)), (1, .int x)] 0 []
  change FC F cX6_isChip RX6 (tyE c) at hC
  have hn1 := hV.n1
  have hn2 := hV.n2
  have hpn := hV.pn
  have hk6 := hV.k
  have hpk := hV.pk
  have hpk1 := SV.pk1 S
  have hch8 := hV.chips
  have hmk := hV.mask
  have hmk31 : S 0 1 < 2 ^ 31 := by omega
  refine x_iload_n hC 1 rfl dX6_isChip_0 ?_
  refine x_aload_n hC 0 rfl dX6_isChip_1 ?_
  refine x_get hC fl_X6_98 dX6_isChip_2 0 rfl (v := .int (nI (S 0 3))) (xv hI.chips) ?_
  refine x_callN hC cs_X6_73 (c_X6_isIn (x := x) (m := (S 0 3))  (by first | assumption | exact hI.mb | omega)) dX6_isChip_5 [] rfl (Nat.le_of_ble_eq_true rfl) rfl (rm_ok hRm (by decide) (by decide)) ?_
  exact x_zret hC hR dX6_isChip_8 (bz_n _) (⟨rfl, rfl⟩)
set_option maxHeartbeats 4000000 in
set_option maxRecDepth 100000 in
theorem c_X6_noHelp {l : Launch} {D : va_G} {c : Nat → ClassId} {b : Nat → Nat} {τ : MM}  : KV l D (tyE c) (mw c b) yX6_noHelp cX6_noHelp 2 (rmL 1) [.ref (b 0)] τ (fun u => ∃ f, u = msetc (mup τ 0 5 (nI 0)) 10 f ∧ ∀ j, j < 8 → f j = nI 0) := by
  refine x_enterV (by decide) (Nat.le_of_ble_eq_true rfl) (fun F hl hD hn hRm hC hR => ?_)
  subst hl hD
  change XW F 0 0 (mw c b τ) [(0, .ref (b 0))] 0 []
  change FC F cX6_noHelp RX6 (tyE c) at hC
  refine x_aload_n hC 0 rfl dX6_noHelp_0 ?_
  refine x_iconst hC (v := (nI 0)) dX6_noHelp_1 rfl ?_
  refine x_put hC fp_X6_86 dX6_noHelp_2 0 rfl rfl rfl (Nat.le_of_ble_eq_true rfl) (mw c b (mup τ 0 5 (nI 0))) rfl ?_
  rw [show mup τ 0 5 (nI 0) = msetc (mup τ 0 5 (nI 0)) 10 (τ.1 10) from Prod.ext (setc_id (mup τ 0 5 (nI 0)).1 10).symm rfl]
  change XW F 0 0 (mw c b (msetc (mup τ 0 5 (nI 0)) 10 (τ.1 10))) [(0, .ref (b 0))] 5 []
  refine x_iconst hC (v := (nI 0)) dX6_noHelp_5 rfl ?_
  refine x_istore_n hC [(1, .int (nI 0)), (0, .ref (b 0))] rfl (lt_n hn rfl) dX6_noHelp_6 ?_
  refine x_lv [1, 0] rfl ?_
  have L7 : ∀ (N7 : Nat) (f : Nat → Int32) (i : Nat), 8 - i < N7 → (i ≤ 8) → (∀ j, j < i → f j = nI 0) → XW F 0 0 (mw c b (msetc (mup τ 0 5 (nI 0)) 10 f)) [(0, .ref (b 0)), (1, .int (nI i))] 7 [] := by
    intro N7
    induction N7 with
    | zero => intro f i hN7 hi hf; exact absurd hN7 (by omega)
    | succ N7 ih7 =>
      intro f i hN7 hi hf
      refine x_iload_n hC 1 rfl dX6_noHelp_7 ?_
      refine x_bipush hC (v := (nI 8)) dX6_noHelp_8 rfl ?_
      refine x_icmp_geN hC 26 dX6_noHelp_10 rfl (by omega) (by decide) (fun h10 => ?_) (fun h10 => ?_)
      · -- 10 T
        exact x_vret hC hR dX6_noHelp_26 (⟨f, rfl, fun j h => hf j (by omega)⟩)
      · -- 10 F
        refine x_aload_n hC 0 rfl dX6_noHelp_13 ?_
        refine x_get hC fl_X6_37 dX6_noHelp_14 0 rfl rfl ?_
        refine x_iload_n hC 1 rfl dX6_noHelp_17 ?_
        refine x_iconst hC (v := (nI 0)) dX6_noHelp_18 rfl ?_
        refine x_zast hC 10 1 rfl rfl (by omega) (by decide) rfl (mw c b (msetc (mup τ 0 5 (nI 0)) 10 (upd f i (nI 0)))) rfl dX6_noHelp_19 ?_
        refine x_iinc hC (z := 1) (v := (nI (i + 1))) 1 rfl (nI_add i 1) [(1, .int (nI (i + 1))), (0, .ref (b 0))] rfl (lt_n hn rfl) dX6_noHelp_20 ?_
        refine x_goto hC 7 dX6_noHelp_23 rfl ?_
        refine x_lv [1, 0] rfl ?_
        exact ih7 (upd f i (nI 0)) (i + 1) (by omega) (by omega) (fun j h => by by_cases q : j = i <;> simp [upd, q, hf j] <;> exact hf j (by omega))
  exact L7 _ (τ.1 10) 0 (Nat.lt_succ_self _) (by omega) (fun j h => absurd h (by omega))
set_option maxHeartbeats 4000000 in
set_option maxRecDepth 100000 in
theorem c_X6_noRows {l : Launch} {D : va_G} {c : Nat → ClassId} {b : Nat → Nat} {τ : MM}  : KV l D (tyE c) (mw c b) yX6_noRows cX6_noRows 1 (rmL 2) [.ref (b 0)] τ (fun u => ∃ f, u = msetc (mup (mup τ 0 3 (nI 0)) 0 5 (nI 0)) 10 f ∧ ∀ j, j < 8 → f j = nI 0) := by
  refine x_enterV (by decide) (Nat.le_of_ble_eq_true rfl) (fun F hl hD hn hRm hC hR => ?_)
  subst hl hD
  change XW F 0 0 (mw c b τ) [(0, .ref (b 0))] 0 []
  change FC F cX6_noRows RX6 (tyE c) at hC
  refine x_aload_n hC 0 rfl dX6_noRows_0 ?_
  refine x_iconst hC (v := (nI 0)) dX6_noRows_1 rfl ?_
  refine x_put hC fp_X6_80 dX6_noRows_2 0 rfl rfl rfl (Nat.le_of_ble_eq_true rfl) (mw c b (mup τ 0 3 (nI 0))) rfl ?_
  refine x_aload_n hC 0 rfl dX6_noRows_5 ?_
  refine x_callVV hC cw_X6_83 (c_X6_noHelp   ) dX6_noRows_6 [] rfl (Nat.le_of_ble_eq_true rfl) rfl (rm_ok hRm (by decide) (by decide)) 6 0 rfl rfl (fun m6 hp6 => ?_)
  obtain ⟨f, rfl, hf⟩ := hp6
  exact x_vret hC hR dX6_noRows_9 (⟨f, rfl, hf⟩)
set_option maxHeartbeats 4000000 in
set_option maxRecDepth 100000 in
theorem c_X6_refuse {l : Launch} {D : va_G} {c : Nat → ClassId} {b : Nat → Nat} {τ : MM} {z : Int} {j v : Nat} (hz : z = -(j : Int)) (hj : 1 ≤ j ∧ j ≤ 6) (h6 : τ.1 1 j = nI v) : KI l D (tyE c) (mw c b) yX6_refuse cX6_refuse 2 .int (rmL 1) [.ref (b 0), .int (zI z)] τ (fun r u => r = zI z ∧ u = mup τ 1 j (nI (v + 1))) := by
  refine x_enterI (by decide) (Nat.le_of_ble_eq_true rfl) (fun F hl hD hn hRm hC hR => ?_)
  subst hl hD
  change XW F 0 0 (mw c b τ) [(0, .ref (b 0)), (1, .int (zI z))] 0 []
  change FC F cX6_refuse RX6 (tyE c) at hC
  refine x_aload_n hC 0 rfl dX6_refuse_0 ?_
  refine x_get hC fl_X6_7 dX6_refuse_1 0 rfl rfl ?_
  refine x_iload_n hC 1 rfl dX6_refuse_4 ?_
  refine x_inegE hC (z := (zI (-z))) (zI_neg z) dX6_refuse_5 ?_
  refine x_top (x := (zI (-z))) (y := (nI j)) (by rw [hz]; exact congrArg zI (show - -(j : Int) = (j : Int) by omega)) ?_
  refine x_dup2 hC rfl rfl dX6_refuse_6 ?_
  refine x_iald hC 1 0 rfl rfl (y := (nI v)) (by omega) (by decide) (h6) dX6_refuse_7 ?_
  refine x_iconst hC (v := (nI 1)) dX6_refuse_8 rfl ?_
  refine x_iaddE hC (z := (nI (v + 1))) (nI_add _ _) dX6_refuse_9 ?_
  refine x_iast hC 1 0 rfl rfl (by omega) (by decide) (mw c b (mup τ 1 j (nI (v + 1)))) rfl dX6_refuse_10 ?_
  refine x_iload_n hC 1 rfl dX6_refuse_11 ?_
  exact x_iret hC hR dX6_refuse_12 (⟨rfl, rfl⟩)
set_option maxHeartbeats 4000000 in
set_option maxRecDepth 100000 in
theorem c_X6_cells {l : Launch} {D : va_G} {c : Nat → ClassId} {b : Nat → Nat} {τ : MM} {x : Int32} {S : SS} (hI : MI τ S) (hV : SV S)  : KI l D (tyE c) (mw c b) yX6_cells cX6_cells 4 .int (rmL 3) [.ref (b 0), .int x] τ (fun r u => r = (sp_cells S x).1 ∧ MI u (sp_cells S x).2) := by
  refine x_enterI (by decide) (Nat.le_of_ble_eq_true rfl) (fun F hl hD hn hRm hC hR => ?_)
  subst hl hD
  change XW F 0 0 (mw c b τ) [(0, .ref (b 0)), (1, .int x)] 0 []
  change FC F cX6_cells RX6 (tyE c) at hC
  have hn1 := hV.n1
  have hn2 := hV.n2
  have hpn := hV.pn
  have hk6 := hV.k
  have hpk := hV.pk
  have hpk1 := SV.pk1 S
  have hch8 := hV.chips
  have hmk := hV.mask
  have hmk31 : S 0 1 < 2 ^ 31 := by omega
  refine x_iload_n hC 1 rfl dX6_cells_0 ?_
  refine x_iconst hC (v := (nI 4)) dX6_cells_1 rfl ?_
  refine x_bipush hC (v := (nI 14)) dX6_cells_2 rfl ?_
  refine x_callN hC cs_X6_90 (c_X6_wrong (x := x) (lo := 4) (hi := 14)  ) dX6_cells_4 [] rfl (Nat.le_of_ble_eq_true rfl) rfl (rm_ok hRm (by decide) (by decide)) ?_
  rcases wr3_cases x 4 14 (by omega) (by omega) with ⟨w1, we⟩ | ⟨w1, w2, we⟩ | ⟨w1, w2, we, v, hv1, hv2, rfl⟩
  · skip
    refine x_top we ?_
    refine x_istore_n hC [(2, .int (zI (-4))), (0, .ref (b 0)), (1, .int x)] rfl (lt_n hn rfl) dX6_cells_7 ?_
    refine x_iload_n hC 0 rfl dX6_cells_8 ?_
    refine x_if_eq_F hC 18 dX6_cells_9 rfl (by decide) ?_
    refine x_aload_n hC 1 rfl dX6_cells_12 ?_
    refine x_iload_n hC 0 rfl dX6_cells_13 ?_
    refine x_callVI hC cw_X6_94 (c_X6_refuse (z := (-4)) (j := 4) (v := (S 1 4)) (by decide) (by decide) (hI.ref 4 (by decide))) dX6_cells_14 [] rfl (Nat.le_of_ble_eq_true rfl) rfl (rm_ok hRm (by decide) (by decide)) 6 0 rfl rfl (fun r14 m14 hp14 => ?_)
    obtain ⟨rfl, rfl⟩ := hp14
    exact x_iret hC hR dX6_cells_17 (sp_leafM (by simp [sp_cells, w1]) (hI.rfs 4 (by decide)))
  · skip
    refine x_top we ?_
    refine x_istore_n hC [(2, .int (zI (-6))), (0, .ref (b 0)), (1, .int x)] rfl (lt_n hn rfl) dX6_cells_7 ?_
    refine x_iload_n hC 0 rfl dX6_cells_8 ?_
    refine x_if_eq_F hC 18 dX6_cells_9 rfl (by decide) ?_
    refine x_aload_n hC 1 rfl dX6_cells_12 ?_
    refine x_iload_n hC 0 rfl dX6_cells_13 ?_
    refine x_callVI hC cw_X6_94 (c_X6_refuse (z := (-6)) (j := 6) (v := (S 1 6)) (by decide) (by decide) (hI.ref 6 (by decide))) dX6_cells_14 [] rfl (Nat.le_of_ble_eq_true rfl) rfl (rm_ok hRm (by decide) (by decide)) 6 0 rfl rfl (fun r14 m14 hp14 => ?_)
    obtain ⟨rfl, rfl⟩ := hp14
    exact x_iret hC hR dX6_cells_17 (sp_leafM (by simp [sp_cells, w1, w2]) (hI.rfs 6 (by decide)))
  · skip
    refine x_top we ?_
    have tv := tn_nI (v := v) (by omega)
    refine x_istore_n hC [(2, .int (nI 0)), (0, .ref (b 0)), (1, .int (nI v))] rfl (lt_n hn rfl) dX6_cells_7 ?_
    refine x_iload_n hC 0 rfl dX6_cells_8 ?_
    refine x_if_eq_T hC 18 dX6_cells_9 rfl (by decide) ?_
    refine x_aload_n hC 1 rfl dX6_cells_18 ?_
    refine x_get hC fl_X6_44 dX6_cells_19 0 rfl (v := .int (nI (S 0 0))) (xv hI.n) ?_
    refine x_istore_n hC [(3, .int (nI (S 0 0))), (2, .int (nI 0)), (0, .ref (b 0)), (1, .int (nI v))] rfl (lt_n hn rfl) dX6_cells_22 ?_
    refine x_aload_n hC 2 rfl dX6_cells_23 ?_
    refine x_iload_n hC 3 rfl dX6_cells_24 ?_
    refine x_put hC fp_X6_44 dX6_cells_25 0 rfl rfl rfl (Nat.le_of_ble_eq_true rfl) (mw c b (mup τ 0 0 (nI v))) rfl ?_
    refine x_aload_n hC 2 rfl dX6_cells_28 ?_
    refine x_iconst hC (v := (nI 0)) dX6_cells_29 rfl ?_
    refine x_put hC fp_X6_98 dX6_cells_30 0 rfl rfl rfl (Nat.le_of_ble_eq_true rfl) (mw c b (mup (mup τ 0 0 (nI v)) 0 1 (nI 0))) rfl ?_
    refine x_aload_n hC 2 rfl dX6_cells_33 ?_
    refine x_iconst hC (v := (nI 0)) dX6_cells_34 rfl ?_
    refine x_put hC fp_X6_77 dX6_cells_35 0 rfl rfl rfl (Nat.le_of_ble_eq_true rfl) (mw c b (mup (mup (mup τ 0 0 (nI v)) 0 1 (nI 0)) 0 2 (nI 0))) rfl ?_
    refine x_aload_n hC 2 rfl dX6_cells_38 ?_
    refine x_callVV hC cw_X6_101 (c_X6_noRows   ) dX6_cells_39 [] rfl (Nat.le_of_ble_eq_true rfl) rfl (rm_ok hRm (by decide) (by decide)) 6 0 rfl rfl (fun m39 hp39 => ?_)
    obtain ⟨f, rfl, hf⟩ := hp39
    refine x_iload_n hC 0 rfl dX6_cells_42 ?_
    exact x_iret hC hR dX6_cells_43 (sp_leafM (by simp [sp_cells, w1, w2, tv]) (hI.new v f))
set_option maxHeartbeats 4000000 in
set_option maxRecDepth 100000 in
theorem c_X6_chip {l : Launch} {D : va_G} {c : Nat → ClassId} {b : Nat → Nat} {τ : MM} {x : Int32} {S : SS} (hI : MI τ S) (hV : SV S)  : KI l D (tyE c) (mw c b) yX6_chip cX6_chip 2 .int (rmL 3) [.ref (b 0), .int x] τ (fun r u => r = (sp_chip S x).1 ∧ MI u (sp_chip S x).2) := by
  refine x_enterI (by decide) (Nat.le_of_ble_eq_true rfl) (fun F hl hD hn hRm hC hR => ?_)
  subst hl hD
  change XW F 0 0 (mw c b τ) [(0, .ref (b 0)), (1, .int x)] 0 []
  change FC F cX6_chip RX6 (tyE c) at hC
  have hn1 := hV.n1
  have hn2 := hV.n2
  have hpn := hV.pn
  have hk6 := hV.k
  have hpk := hV.pk
  have hpk1 := SV.pk1 S
  have hch8 := hV.chips
  have hmk := hV.mask
  have hmk31 : S 0 1 < 2 ^ 31 := by omega
  refine x_aload_n hC 0 rfl dX6_chip_0 ?_
  refine x_iload_n hC 1 rfl dX6_chip_1 ?_
  refine x_callVI hC cw_X6_104 (c_X6_isWord (x := x) (S := S) (by first | assumption | exact hI.mb | omega) (by first | assumption | exact hI.mb | omega)) dX6_chip_2 [] rfl (Nat.le_of_ble_eq_true rfl) rfl (rm_ok hRm (by decide) (by decide)) 6 0 rfl rfl (fun r2 m2 hp2 => ?_)
  obtain ⟨rfl, rfl⟩ := hp2
  refine x_if_neB hC 14 dX6_chip_5 rfl (fun h5 => ?_) (fun h5 => ?_)
  · -- 5 T
    obtain ⟨v, hv, rfl⟩ := isI_T h5
    have tv := tn_nI (v := v) (by omega)
    refine x_aload_n hC 0 rfl dX6_chip_14 ?_
    refine x_get hC fl_X6_98 dX6_chip_15 0 rfl (v := .int (nI (S 0 3))) (xv hI.chips) ?_
    refine x_bipush hC (v := (nI 8)) dX6_chip_18 rfl ?_
    refine x_icmp_neN hC 30 dX6_chip_20 rfl (by omega) (by decide) (fun h20 => ?_) (fun h20 => ?_)
    · -- 20 T
      have g20 : S 0 3 < 8 := by omega
      refine x_aload_n hC 0 rfl dX6_chip_30 ?_
      refine x_get hC fl_X6_22 dX6_chip_31 0 rfl rfl ?_
      refine x_aload_n hC 0 rfl dX6_chip_34 ?_
      refine x_get hC fl_X6_98 dX6_chip_35 0 rfl (v := .int (nI (S 0 3))) (xv hI.chips) ?_
      refine x_iload_n hC 1 rfl dX6_chip_38 ?_
      refine x_iast hC 5 0 rfl rfl (by omega) (by decide) (mw c b (mup τ 5 (S 0 3) (nI v))) rfl dX6_chip_39 ?_
      refine x_aload_n hC 0 rfl dX6_chip_40 ?_
      refine x_get hC fl_X6_37 dX6_chip_41 0 rfl rfl ?_
      refine x_aload_n hC 0 rfl dX6_chip_44 ?_
      refine x_get hC fl_X6_98 dX6_chip_45 0 rfl (v := .int (nI (S 0 3))) (xv hI.chips) ?_
      refine x_iconst hC (v := (nI 0)) dX6_chip_48 rfl ?_
      refine x_zast hC 10 1 rfl rfl (by omega) (by decide) rfl (mw c b (mup (mup τ 5 (S 0 3) (nI v)) 10 (S 0 3) (nI 0))) rfl dX6_chip_49 ?_
      refine x_aload_n hC 0 rfl dX6_chip_50 ?_
      refine x_dup hC rfl dX6_chip_51 ?_
      refine x_get hC fl_X6_98 dX6_chip_52 0 rfl (v := .int (nI (S 0 3))) (xv hI.chips) ?_
      refine x_iconst hC (v := (nI 1)) dX6_chip_55 rfl ?_
      refine x_iaddE hC (z := (nI ((S 0 3) + 1))) (nI_add _ _) dX6_chip_56 ?_
      refine x_put hC fp_X6_98 dX6_chip_57 0 rfl rfl rfl (Nat.le_of_ble_eq_true rfl) (mw c b (mup (mup (mup τ 5 (S 0 3) (nI v)) 10 (S 0 3) (nI 0)) 0 1 (nI ((S 0 3) + 1)))) rfl ?_
      refine x_aload_n hC 0 rfl dX6_chip_60 ?_
      refine x_get hC fl_X6_98 dX6_chip_61 0 rfl (v := .int (nI (S 0 3 + 1))) rfl ?_
      refine x_iconst hC (v := (nI 1)) dX6_chip_64 rfl ?_
      refine x_isubE hC (z := (nI ((S 0 3 + 1) - 1))) (pk_sub (by omega)) dX6_chip_65 ?_
      exact x_iret hC hR dX6_chip_66 (sp_leafM (by simp [sp_chip, h5, g20, tv]) (hI.addc v))
    · -- 20 F
      have g20 : ¬ S 0 3 < 8 := by omega
      refine x_aload_n hC 0 rfl dX6_chip_23 ?_
      refine x_bipush hC (v := (zI (-6))) dX6_chip_24 rfl ?_
      refine x_callVI hC cw_X6_94 (c_X6_refuse (z := (-6)) (j := 6) (v := (S 1 6)) (by decide) (by decide) (hI.ref 6 (by decide))) dX6_chip_26 [] rfl (Nat.le_of_ble_eq_true rfl) rfl (rm_ok hRm (by decide) (by decide)) 6 0 rfl rfl (fun r26 m26 hp26 => ?_)
      obtain ⟨rfl, rfl⟩ := hp26
      exact x_iret hC hR dX6_chip_29 (sp_leafM (by simp [sp_chip, h5, g20, tv]) (hI.rfs 6 (by decide)))
  · -- 5 F
    refine x_aload_n hC 0 rfl dX6_chip_8 ?_
    refine x_iconst hC (v := (zI (-1))) dX6_chip_9 rfl ?_
    refine x_callVI hC cw_X6_94 (c_X6_refuse (z := (-1)) (j := 1) (v := (S 1 1)) (by decide) (by decide) (hI.ref 1 (by decide))) dX6_chip_10 [] rfl (Nat.le_of_ble_eq_true rfl) rfl (rm_ok hRm (by decide) (by decide)) 6 0 rfl rfl (fun r10 m10 hp10 => ?_)
    obtain ⟨rfl, rfl⟩ := hp10
    exact x_iret hC hR dX6_chip_13 (sp_leafM (by simp [sp_chip, h5]) (hI.rfs 1 (by decide)))
set_option maxHeartbeats 4000000 in
set_option maxRecDepth 100000 in
theorem c_X6_set {l : Launch} {D : va_G} {c : Nat → ClassId} {b : Nat → Nat} {τ : MM} {c0 : Int32} {t : Int32} {v : Int32} {S : SS} (hI : MI τ S) (hV : SV S)  : KI l D (tyE c) (mw c b) yX6_set cX6_set 6 .int (rmL 2) [.ref (b 0), .int c0, .int t, .int v] τ (fun r u => r = (sp_set S c0 t v).1 ∧ MI u (sp_set S c0 t v).2) := by
  refine x_enterI (by decide) (Nat.le_of_ble_eq_true rfl) (fun F hl hD hn hRm hC hR => ?_)
  subst hl hD
  change XW F 0 0 (mw c b τ) [(0, .ref (b 0)), (1, .int c0), (2, .int t), (3, .int v)] 0 []
  change FC F cX6_set RX6 (tyE c) at hC
  have hn1 := hV.n1
  have hn2 := hV.n2
  have hpn := hV.pn
  have hk6 := hV.k
  have hpk := hV.pk
  have hpk1 := SV.pk1 S
  have hch8 := hV.chips
  have hmk := hV.mask
  have hmk31 : S 0 1 < 2 ^ 31 := by omega
  refine x_iload_n hC 1 rfl dX6_set_0 ?_
  refine x_bipush hC (v := (nI 14)) dX6_set_1 rfl ?_
  refine x_callN hC cs_X6_73 (c_X6_isIn (x := c0) (m := 14)  (by first | assumption | exact hI.mb | omega)) dX6_set_3 [] rfl (Nat.le_of_ble_eq_true rfl) rfl (rm_ok hRm (by decide) (by decide)) ?_
  refine x_if_neB hC 13 dX6_set_6 rfl (fun h6 => ?_) (fun h6 => ?_)
  · -- 6 T
    obtain ⟨u, hu, rfl⟩ := isI_T h6
    have tu := tn_nI (v := u) (by omega)
    refine x_iload_n hC 2 rfl dX6_set_13 ?_
    refine x_iconst hC (v := (nI 3)) dX6_set_14 rfl ?_
    refine x_callN hC cs_X6_73 (c_X6_isIn (x := t) (m := 3)  (by first | assumption | exact hI.mb | omega)) dX6_set_15 [] rfl (Nat.le_of_ble_eq_true rfl) rfl (rm_ok hRm (by decide) (by decide)) ?_
    refine x_if_neB hC 26 dX6_set_18 rfl (fun h18 => ?_) (fun h18 => ?_)
    · -- 18 T
      obtain ⟨w, hw, rfl⟩ := isI_T h18
      have tw := tn_nI (v := w) (by omega)
      obtain rfl | rfl | rfl : w = 0 ∨ w = 1 ∨ w = 2 := by omega
      · skip
        refine x_iload_n hC 3 rfl dX6_set_26 ?_
        refine x_iload_n hC 2 rfl dX6_set_27 ?_
        refine x_iconst hC (v := (nI 2)) dX6_set_28 rfl ?_
        refine x_icmp_ne_T hC 36 dX6_set_29 rfl (by decide) ?_
        refine x_iconst hC (v := (nI 0)) dX6_set_36 rfl ?_
        refine x_iload_n hC 2 rfl dX6_set_37 ?_
        refine x_iconst hC (v := (nI 2)) dX6_set_38 rfl ?_
        refine x_icmp_ne_T hC 47 dX6_set_39 rfl (by decide) ?_
        refine x_iconst hC (v := (nI 4)) dX6_set_47 rfl ?_
        refine x_callN hC cs_X6_90 (c_X6_wrong (x := v) (lo := 0) (hi := 4)  ) dX6_set_48 [] rfl (Nat.le_of_ble_eq_true rfl) rfl (rm_ok hRm (by decide) (by decide)) ?_
        rcases wr3_cases v 0 4 (by omega) (by omega) with ⟨w1, we⟩ | ⟨w1, w2, we⟩ | ⟨w1, w2, we, y, hy1, hy2, rfl⟩
        · skip
          refine x_top we ?_
          refine x_istore hC [(4, .int (zI (-4))), (0, .ref (b 0)), (1, .int (nI u)), (2, .int (nI 0)), (3, .int v)] rfl (lt_n hn rfl) dX6_set_51 ?_
          refine x_iload hC 0 rfl dX6_set_53 ?_
          refine x_if_eq_F hC 65 dX6_set_55 rfl (by decide) ?_
          refine x_aload_n hC 1 rfl dX6_set_58 ?_
          refine x_iload hC 0 rfl dX6_set_59 ?_
          refine x_callVI hC cw_X6_94 (c_X6_refuse (z := (-4)) (j := 4) (v := (S 1 4)) (by decide) (by decide) (hI.ref 4 (by decide))) dX6_set_61 [] rfl (Nat.le_of_ble_eq_true rfl) rfl (rm_ok hRm (by decide) (by decide)) 6 0 rfl rfl (fun r61 m61 hp61 => ?_)
          obtain ⟨rfl, rfl⟩ := hp61
          exact x_iret hC hR dX6_set_64 (sp_leafM (by simp [sp_set, h6, h18, tu, tw, w1, lo2, hi2]) (hI.rfs 4 (by decide)))
        · skip
          refine x_top we ?_
          refine x_istore hC [(4, .int (zI (-6))), (0, .ref (b 0)), (1, .int (nI u)), (2, .int (nI 0)), (3, .int v)] rfl (lt_n hn rfl) dX6_set_51 ?_
          refine x_iload hC 0 rfl dX6_set_53 ?_
          refine x_if_eq_F hC 65 dX6_set_55 rfl (by decide) ?_
          refine x_aload_n hC 1 rfl dX6_set_58 ?_
          refine x_iload hC 0 rfl dX6_set_59 ?_
          refine x_callVI hC cw_X6_94 (c_X6_refuse (z := (-6)) (j := 6) (v := (S 1 6)) (by decide) (by decide) (hI.ref 6 (by decide))) dX6_set_61 [] rfl (Nat.le_of_ble_eq_true rfl) rfl (rm_ok hRm (by decide) (by decide)) 6 0 rfl rfl (fun r61 m61 hp61 => ?_)
          obtain ⟨rfl, rfl⟩ := hp61
          exact x_iret hC hR dX6_set_64 (sp_leafM (by simp [sp_set, h6, h18, tu, tw, w1, w2, lo2, hi2]) (hI.rfs 6 (by decide)))
        · skip
          refine x_top we ?_
          have ty := tn_nI (v := y) (by omega)
          refine x_istore hC [(4, .int (nI 0)), (0, .ref (b 0)), (1, .int (nI u)), (2, .int (nI 0)), (3, .int (nI y))] rfl (lt_n hn rfl) dX6_set_51 ?_
          refine x_iload hC 0 rfl dX6_set_53 ?_
          refine x_if_eq_T hC 65 dX6_set_55 rfl (by decide) ?_
          refine x_iload_n hC 3 rfl dX6_set_65 ?_
          refine x_if_ne_F hC 78 dX6_set_66 rfl (by decide) ?_
          refine x_aload_n hC 1 rfl dX6_set_69 ?_
          refine x_get hC fl_X6_13 dX6_set_70 0 rfl rfl ?_
          refine x_iload_n hC 2 rfl dX6_set_73 ?_
          refine x_iald hC 2 0 rfl rfl (y := (nI (S 2 u))) (by omega) (by decide) (hI.ch u (by omega)) dX6_set_74 ?_
          refine x_goto hC 98 dX6_set_75 rfl ?_
          refine x_istore hC [(5, .int (nI (S 2 u))), (4, .int (nI 0)), (0, .ref (b 0)), (1, .int (nI u)), (2, .int (nI 0)), (3, .int (nI y))] rfl (lt_n hn rfl) dX6_set_98 ?_
          refine x_iload_n hC 4 rfl dX6_set_100 ?_
          refine x_if_ne_F hC 114 dX6_set_101 rfl (by decide) ?_
          refine x_aload_n hC 2 rfl dX6_set_104 ?_
          refine x_get hC fl_X6_13 dX6_set_105 0 rfl rfl ?_
          refine x_iload_n hC 3 rfl dX6_set_108 ?_
          refine x_iload_n hC 5 rfl dX6_set_109 ?_
          refine x_iast hC 2 0 rfl rfl (by omega) (by decide) (mw c b (mup τ 2 u (nI y))) rfl dX6_set_110 ?_
          refine x_goto hC 136 dX6_set_111 rfl ?_
          refine x_iload hC 0 rfl dX6_set_136 ?_
          exact x_iret hC hR dX6_set_138 (sp_leafM (by simp [sp_set, h6, h18, tu, tw, w1, w2, ty, lo2, hi2]) (hI.set0 u y))
      · skip
        refine x_iload_n hC 3 rfl dX6_set_26 ?_
        refine x_iload_n hC 2 rfl dX6_set_27 ?_
        refine x_iconst hC (v := (nI 2)) dX6_set_28 rfl ?_
        refine x_icmp_ne_T hC 36 dX6_set_29 rfl (by decide) ?_
        refine x_iconst hC (v := (nI 0)) dX6_set_36 rfl ?_
        refine x_iload_n hC 2 rfl dX6_set_37 ?_
        refine x_iconst hC (v := (nI 2)) dX6_set_38 rfl ?_
        refine x_icmp_ne_T hC 47 dX6_set_39 rfl (by decide) ?_
        refine x_iconst hC (v := (nI 4)) dX6_set_47 rfl ?_
        refine x_callN hC cs_X6_90 (c_X6_wrong (x := v) (lo := 0) (hi := 4)  ) dX6_set_48 [] rfl (Nat.le_of_ble_eq_true rfl) rfl (rm_ok hRm (by decide) (by decide)) ?_
        rcases wr3_cases v 0 4 (by omega) (by omega) with ⟨w1, we⟩ | ⟨w1, w2, we⟩ | ⟨w1, w2, we, y, hy1, hy2, rfl⟩
        · skip
          refine x_top we ?_
          refine x_istore hC [(4, .int (zI (-4))), (0, .ref (b 0)), (1, .int (nI u)), (2, .int (nI 1)), (3, .int v)] rfl (lt_n hn rfl) dX6_set_51 ?_
          refine x_iload hC 0 rfl dX6_set_53 ?_
          refine x_if_eq_F hC 65 dX6_set_55 rfl (by decide) ?_
          refine x_aload_n hC 1 rfl dX6_set_58 ?_
          refine x_iload hC 0 rfl dX6_set_59 ?_
          refine x_callVI hC cw_X6_94 (c_X6_refuse (z := (-4)) (j := 4) (v := (S 1 4)) (by decide) (by decide) (hI.ref 4 (by decide))) dX6_set_61 [] rfl (Nat.le_of_ble_eq_true rfl) rfl (rm_ok hRm (by decide) (by decide)) 6 0 rfl rfl (fun r61 m61 hp61 => ?_)
          obtain ⟨rfl, rfl⟩ := hp61
          exact x_iret hC hR dX6_set_64 (sp_leafM (by simp [sp_set, h6, h18, tu, tw, w1, lo2, hi2]) (hI.rfs 4 (by decide)))
        · skip
          refine x_top we ?_
          refine x_istore hC [(4, .int (zI (-6))), (0, .ref (b 0)), (1, .int (nI u)), (2, .int (nI 1)), (3, .int v)] rfl (lt_n hn rfl) dX6_set_51 ?_
          refine x_iload hC 0 rfl dX6_set_53 ?_
          refine x_if_eq_F hC 65 dX6_set_55 rfl (by decide) ?_
          refine x_aload_n hC 1 rfl dX6_set_58 ?_
          refine x_iload hC 0 rfl dX6_set_59 ?_
          refine x_callVI hC cw_X6_94 (c_X6_refuse (z := (-6)) (j := 6) (v := (S 1 6)) (by decide) (by decide) (hI.ref 6 (by decide))) dX6_set_61 [] rfl (Nat.le_of_ble_eq_true rfl) rfl (rm_ok hRm (by decide) (by decide)) 6 0 rfl rfl (fun r61 m61 hp61 => ?_)
          obtain ⟨rfl, rfl⟩ := hp61
          exact x_iret hC hR dX6_set_64 (sp_leafM (by simp [sp_set, h6, h18, tu, tw, w1, w2, lo2, hi2]) (hI.rfs 6 (by decide)))
        · skip
          refine x_top we ?_
          have ty := tn_nI (v := y) (by omega)
          refine x_istore hC [(4, .int (nI 0)), (0, .ref (b 0)), (1, .int (nI u)), (2, .int (nI 1)), (3, .int (nI y))] rfl (lt_n hn rfl) dX6_set_51 ?_
          refine x_iload hC 0 rfl dX6_set_53 ?_
          refine x_if_eq_T hC 65 dX6_set_55 rfl (by decide) ?_
          refine x_iload_n hC 3 rfl dX6_set_65 ?_
          refine x_if_ne_T hC 78 dX6_set_66 rfl (by decide) ?_
          refine x_iload_n hC 3 rfl dX6_set_78 ?_
          refine x_iconst hC (v := (nI 1)) dX6_set_79 rfl ?_
          refine x_icmp_ne_F hC 92 dX6_set_80 rfl (by decide) ?_
          refine x_aload_n hC 1 rfl dX6_set_83 ?_
          refine x_get hC fl_X6_16 dX6_set_84 0 rfl rfl ?_
          refine x_iload_n hC 2 rfl dX6_set_87 ?_
          refine x_iald hC 3 0 rfl rfl (y := (nI (S 3 u))) (by omega) (by decide) (hI.we u (by omega)) dX6_set_88 ?_
          refine x_goto hC 98 dX6_set_89 rfl ?_
          refine x_istore hC [(5, .int (nI (S 3 u))), (4, .int (nI 0)), (0, .ref (b 0)), (1, .int (nI u)), (2, .int (nI 1)), (3, .int (nI y))] rfl (lt_n hn rfl) dX6_set_98 ?_
          refine x_iload_n hC 4 rfl dX6_set_100 ?_
          refine x_if_ne_T hC 114 dX6_set_101 rfl (by decide) ?_
          refine x_iload_n hC 4 rfl dX6_set_114 ?_
          refine x_iconst hC (v := (nI 1)) dX6_set_115 rfl ?_
          refine x_icmp_ne_F hC 129 dX6_set_116 rfl (by decide) ?_
          refine x_aload_n hC 2 rfl dX6_set_119 ?_
          refine x_get hC fl_X6_16 dX6_set_120 0 rfl rfl ?_
          refine x_iload_n hC 3 rfl dX6_set_123 ?_
          refine x_iload_n hC 5 rfl dX6_set_124 ?_
          refine x_iast hC 3 0 rfl rfl (by omega) (by decide) (mw c b (mup τ 3 u (nI y))) rfl dX6_set_125 ?_
          refine x_goto hC 136 dX6_set_126 rfl ?_
          refine x_iload hC 0 rfl dX6_set_136 ?_
          exact x_iret hC hR dX6_set_138 (sp_leafM (by simp [sp_set, h6, h18, tu, tw, w1, w2, ty, lo2, hi2]) (hI.set1 u y))
      · skip
        refine x_iload_n hC 3 rfl dX6_set_26 ?_
        refine x_iload_n hC 2 rfl dX6_set_27 ?_
        refine x_iconst hC (v := (nI 2)) dX6_set_28 rfl ?_
        refine x_icmp_ne_F hC 36 dX6_set_29 rfl (by decide) ?_
        refine x_iconst hC (v := (nI 1)) dX6_set_32 rfl ?_
        refine x_goto hC 37 dX6_set_33 rfl ?_
        refine x_iload_n hC 2 rfl dX6_set_37 ?_
        refine x_iconst hC (v := (nI 2)) dX6_set_38 rfl ?_
        refine x_icmp_ne_F hC 47 dX6_set_39 rfl (by decide) ?_
        refine x_bipush hC (v := (nI 7)) dX6_set_42 rfl ?_
        refine x_goto hC 48 dX6_set_44 rfl ?_
        refine x_callN hC cs_X6_90 (c_X6_wrong (x := v) (lo := 1) (hi := 7)  ) dX6_set_48 [] rfl (Nat.le_of_ble_eq_true rfl) rfl (rm_ok hRm (by decide) (by decide)) ?_
        rcases wr3_cases v 1 7 (by omega) (by omega) with ⟨w1, we⟩ | ⟨w1, w2, we⟩ | ⟨w1, w2, we, y, hy1, hy2, rfl⟩
        · skip
          refine x_top we ?_
          refine x_istore hC [(4, .int (zI (-4))), (0, .ref (b 0)), (1, .int (nI u)), (2, .int (nI 2)), (3, .int v)] rfl (lt_n hn rfl) dX6_set_51 ?_
          refine x_iload hC 0 rfl dX6_set_53 ?_
          refine x_if_eq_F hC 65 dX6_set_55 rfl (by decide) ?_
          refine x_aload_n hC 1 rfl dX6_set_58 ?_
          refine x_iload hC 0 rfl dX6_set_59 ?_
          refine x_callVI hC cw_X6_94 (c_X6_refuse (z := (-4)) (j := 4) (v := (S 1 4)) (by decide) (by decide) (hI.ref 4 (by decide))) dX6_set_61 [] rfl (Nat.le_of_ble_eq_true rfl) rfl (rm_ok hRm (by decide) (by decide)) 6 0 rfl rfl (fun r61 m61 hp61 => ?_)
          obtain ⟨rfl, rfl⟩ := hp61
          exact x_iret hC hR dX6_set_64 (sp_leafM (by simp [sp_set, h6, h18, tu, tw, w1, lo2, hi2]) (hI.rfs 4 (by decide)))
        · skip
          refine x_top we ?_
          refine x_istore hC [(4, .int (zI (-6))), (0, .ref (b 0)), (1, .int (nI u)), (2, .int (nI 2)), (3, .int v)] rfl (lt_n hn rfl) dX6_set_51 ?_
          refine x_iload hC 0 rfl dX6_set_53 ?_
          refine x_if_eq_F hC 65 dX6_set_55 rfl (by decide) ?_
          refine x_aload_n hC 1 rfl dX6_set_58 ?_
          refine x_iload hC 0 rfl dX6_set_59 ?_
          refine x_callVI hC cw_X6_94 (c_X6_refuse (z := (-6)) (j := 6) (v := (S 1 6)) (by decide) (by decide) (hI.ref 6 (by decide))) dX6_set_61 [] rfl (Nat.le_of_ble_eq_true rfl) rfl (rm_ok hRm (by decide) (by decide)) 6 0 rfl rfl (fun r61 m61 hp61 => ?_)
          obtain ⟨rfl, rfl⟩ := hp61
          exact x_iret hC hR dX6_set_64 (sp_leafM (by simp [sp_set, h6, h18, tu, tw, w1, w2, lo2, hi2]) (hI.rfs 6 (by decide)))
        · skip
          refine x_top we ?_
          have ty := tn_nI (v := y) (by omega)
          refine x_istore hC [(4, .int (nI 0)), (0, .ref (b 0)), (1, .int (nI u)), (2, .int (nI 2)), (3, .int (nI y))] rfl (lt_n hn rfl) dX6_set_51 ?_
          refine x_iload hC 0 rfl dX6_set_53 ?_
          refine x_if_eq_T hC 65 dX6_set_55 rfl (by decide) ?_
          refine x_iload_n hC 3 rfl dX6_set_65 ?_
          refine x_if_ne_T hC 78 dX6_set_66 rfl (by decide) ?_
          refine x_iload_n hC 3 rfl dX6_set_78 ?_
          refine x_iconst hC (v := (nI 1)) dX6_set_79 rfl ?_
          refine x_icmp_ne_T hC 92 dX6_set_80 rfl (by decide) ?_
          refine x_aload_n hC 1 rfl dX6_set_92 ?_
          refine x_get hC fl_X6_19 dX6_set_93 0 rfl rfl ?_
          refine x_iload_n hC 2 rfl dX6_set_96 ?_
          refine x_iald hC 4 0 rfl rfl (y := (nI (S 4 u))) (by omega) (by decide) (hI.le u (by omega)) dX6_set_97 ?_
          refine x_istore hC [(5, .int (nI (S 4 u))), (4, .int (nI 0)), (0, .ref (b 0)), (1, .int (nI u)), (2, .int (nI 2)), (3, .int (nI y))] rfl (lt_n hn rfl) dX6_set_98 ?_
          refine x_iload_n hC 4 rfl dX6_set_100 ?_
          refine x_if_ne_T hC 114 dX6_set_101 rfl (by decide) ?_
          refine x_iload_n hC 4 rfl dX6_set_114 ?_
          refine x_iconst hC (v := (nI 1)) dX6_set_115 rfl ?_
          refine x_icmp_ne_T hC 129 dX6_set_116 rfl (by decide) ?_
          refine x_aload_n hC 2 rfl dX6_set_129 ?_
          refine x_get hC fl_X6_19 dX6_set_130 0 rfl rfl ?_
          refine x_iload_n hC 3 rfl dX6_set_133 ?_
          refine x_iload_n hC 5 rfl dX6_set_134 ?_
          refine x_iast hC 4 0 rfl rfl (by omega) (by decide) (mw c b (mup τ 4 u (nI y))) rfl dX6_set_135 ?_
          refine x_iload hC 0 rfl dX6_set_136 ?_
          exact x_iret hC hR dX6_set_138 (sp_leafM (by simp [sp_set, h6, h18, tu, tw, w1, w2, ty, lo2, hi2]) (hI.set2 u y))
    · -- 18 F
      refine x_bipush hC (v := (zI (-2))) dX6_set_21 rfl ?_
      refine x_goto hC 51 dX6_set_23 rfl ?_
      refine x_istore hC [(4, .int (zI (-2))), (0, .ref (b 0)), (1, .int (nI u)), (2, .int t), (3, .int v)] rfl (lt_n hn rfl) dX6_set_51 ?_
      refine x_iload hC 0 rfl dX6_set_53 ?_
      refine x_if_eq_F hC 65 dX6_set_55 rfl (by decide) ?_
      refine x_aload_n hC 1 rfl dX6_set_58 ?_
      refine x_iload hC 0 rfl dX6_set_59 ?_
      refine x_callVI hC cw_X6_94 (c_X6_refuse (z := (-2)) (j := 2) (v := (S 1 2)) (by decide) (by decide) (hI.ref 2 (by decide))) dX6_set_61 [] rfl (Nat.le_of_ble_eq_true rfl) rfl (rm_ok hRm (by decide) (by decide)) 6 0 rfl rfl (fun r61 m61 hp61 => ?_)
      obtain ⟨rfl, rfl⟩ := hp61
      exact x_iret hC hR dX6_set_64 (sp_leafM (by simp [sp_set, h6, h18, tu, lo2, hi2]) (hI.rfs 2 (by decide)))
  · -- 6 F
    refine x_iconst hC (v := (zI (-1))) dX6_set_9 rfl ?_
    refine x_goto hC 51 dX6_set_10 rfl ?_
    refine x_istore hC [(4, .int (zI (-1))), (0, .ref (b 0)), (1, .int c0), (2, .int t), (3, .int v)] rfl (lt_n hn rfl) dX6_set_51 ?_
    refine x_iload hC 0 rfl dX6_set_53 ?_
    refine x_if_eq_F hC 65 dX6_set_55 rfl (by decide) ?_
    refine x_aload_n hC 1 rfl dX6_set_58 ?_
    refine x_iload hC 0 rfl dX6_set_59 ?_
    refine x_callVI hC cw_X6_94 (c_X6_refuse (z := (-1)) (j := 1) (v := (S 1 1)) (by decide) (by decide) (hI.ref 1 (by decide))) dX6_set_61 [] rfl (Nat.le_of_ble_eq_true rfl) rfl (rm_ok hRm (by decide) (by decide)) 6 0 rfl rfl (fun r61 m61 hp61 => ?_)
    obtain ⟨rfl, rfl⟩ := hp61
    exact x_iret hC hR dX6_set_64 (sp_leafM (by simp [sp_set, h6, lo2, hi2]) (hI.rfs 1 (by decide)))
set_option maxHeartbeats 4000000 in
set_option maxRecDepth 100000 in
theorem c_X6_worn {l : Launch} {D : va_G} {c : Nat → ClassId} {b : Nat → Nat} {τ : MM} {i : Nat} {age : Nat} {S : SS} (hI : MI τ S) (hV : SV S) (hi : i < 14) (hage : age ≤ 40) : KI l D (tyE c) (mw c b) yX6_worn cX6_worn 3 .int (rmL 2) [.ref (b 0), .int (nI i), .int (nI age)] τ (fun r u => r = nI (agS S age i) ∧ τ = u) := by
  refine x_enterI (by decide) (Nat.le_of_ble_eq_true rfl) (fun F hl hD hn hRm hC hR => ?_)
  subst hl hD
  change XW F 0 0 (mw c b τ) [(0, .ref (b 0)), (1, .int (nI i)), (2, .int (nI age))] 0 []
  change FC F cX6_worn RX6 (tyE c) at hC
  have hn1 := hV.n1
  have hn2 := hV.n2
  have hpn := hV.pn
  have hk6 := hV.k
  have hpk := hV.pk
  have hpk1 := SV.pk1 S
  have hch8 := hV.chips
  have hmk := hV.mask
  have hmk31 : S 0 1 < 2 ^ 31 := by omega
  refine x_iconst hC (v := (nI 4)) dX6_worn_0 rfl ?_
  refine x_aload_n hC 0 rfl dX6_worn_1 ?_
  refine x_get hC fl_X6_13 dX6_worn_2 0 rfl rfl ?_
  refine x_iload_n hC 1 rfl dX6_worn_5 ?_
  refine x_iald hC 2 0 rfl rfl (y := (nI (S 2 i))) (by omega) (by decide) (hI.ch i (by omega)) dX6_worn_6 ?_
  refine x_aload_n hC 0 rfl dX6_worn_7 ?_
  refine x_get hC fl_X6_16 dX6_worn_8 0 rfl rfl ?_
  refine x_iload_n hC 1 rfl dX6_worn_11 ?_
  refine x_iald hC 3 0 rfl rfl (y := (nI (S 3 i))) (by omega) (by decide) (hI.we i (by omega)) dX6_worn_12 ?_
  refine x_iload_n hC 2 rfl dX6_worn_13 ?_
  have htd := hV.told i hi
  have hqa : S 3 i * age ≤ 4 * 40 := Nat.mul_le_mul htd.2.1 hage
  refine x_imulE hC (z := (nI ((S 3 i) * age))) (pk_mul _ _) dX6_worn_14 ?_
  refine x_bipush hC (v := (nI 10)) dX6_worn_15 rfl ?_
  refine x_idivE hC (z := (nI (((S 3 i) * age) / 10))) (by decide) (pk_div (by omega) (by decide) (by decide)) dX6_worn_17 ?_
  refine x_iaddE hC (z := (nI ((S 2 i) + (((S 3 i) * age) / 10)))) (nI_add _ _) dX6_worn_18 ?_
  refine x_min hC cm_X6_108 dX6_worn_19 (v := (nI (agS S age i))) (nI_min (by decide) (by omega)) (by rw [hRm]; decide) (by rw [hRm]; exact Nat.le_of_ble_eq_true rfl) (by rw [hRm]; decide) (by rw [hRm]; decide) ?_
  exact x_iret hC hR dX6_worn_22 (⟨rfl, rfl⟩)
set_option maxHeartbeats 4000000 in
set_option maxRecDepth 100000 in
theorem c_X6_chanceOf {l : Launch} {D : va_G} {c : Nat → ClassId} {b : Nat → Nat} {τ : MM} {i : Nat} {age : Nat} {S : SS} (hI : MI τ S) (hV : SV S) (hi : i < 14) (hage : age ≤ 40) : KI l D (tyE c) (mw c b) yX6_chanceOf cX6_chanceOf 3 .int (rmL 3) [.ref (b 0), .int (nI i), .int (nI age)] τ (fun r u => r = nI (cof S age i) ∧ τ = u) := by
  refine x_enterI (by decide) (Nat.le_of_ble_eq_true rfl) (fun F hl hD hn hRm hC hR => ?_)
  subst hl hD
  change XW F 0 0 (mw c b τ) [(0, .ref (b 0)), (1, .int (nI i)), (2, .int (nI age))] 0 []
  change FC F cX6_chanceOf RX6 (tyE c) at hC
  have hn1 := hV.n1
  have hn2 := hV.n2
  have hpn := hV.pn
  have hk6 := hV.k
  have hpk := hV.pk
  have hpk1 := SV.pk1 S
  have hch8 := hV.chips
  have hmk := hV.mask
  have hmk31 : S 0 1 < 2 ^ 31 := by omega
  refine x_aload_n hC 0 rfl dX6_chanceOf_0 ?_
  refine x_get hC fl_X6_77 dX6_chanceOf_1 0 rfl (v := .int (nI (S 0 1))) (xv hI.mask) ?_
  refine x_iload_n hC 1 rfl dX6_chanceOf_4 ?_
  refine x_ishrE hC (z := (nI ((S 0 1) / 2 ^ i))) (nI_shr (by omega) (by omega)) dX6_chanceOf_5 ?_
  refine x_iconst hC (v := (nI 1)) dX6_chanceOf_6 rfl ?_
  refine x_iandE hC (z := (nI (bt (S 0 1) i))) (nI_and1 _) dX6_chanceOf_7 ?_
  refine x_iconst hC (v := (nI 1)) dX6_chanceOf_8 rfl ?_
  refine x_icmp_neN hC 16 dX6_chanceOf_9 rfl (by have := bt_lt (S 0 1) i; omega) (by decide) (fun h9 => ?_) (fun h9 => ?_)
  · -- 9 T
    refine x_aload_n hC 0 rfl dX6_chanceOf_16 ?_
    refine x_iload_n hC 1 rfl dX6_chanceOf_17 ?_
    refine x_iload_n hC 2 rfl dX6_chanceOf_18 ?_
    refine x_callVI hC cw_X6_114 (c_X6_worn (i := i) (age := age) (S := S) (by first | assumption | exact hI.mb | omega) (by first | assumption | exact hI.mb | omega) (by first | assumption | exact hI.mb | omega) (by first | assumption | exact hI.mb | omega)) dX6_chanceOf_19 [] rfl (Nat.le_of_ble_eq_true rfl) rfl (rm_ok hRm (by decide) (by decide)) 6 0 rfl rfl (fun r19 m19 hp19 => ?_)
    obtain ⟨rfl, rfl⟩ := hp19
    exact x_iret hC hR dX6_chanceOf_22 (⟨by rw [cof, if_neg h9], rfl⟩)
  · -- 9 F
    refine x_iconst hC (v := (nI 0)) dX6_chanceOf_12 rfl ?_
    refine x_goto hC 22 dX6_chanceOf_13 rfl ?_
    exact x_iret hC hR dX6_chanceOf_22 (⟨by rw [cof, if_pos h9], rfl⟩)
set_option maxHeartbeats 4000000 in
set_option maxRecDepth 100000 in
theorem c_X6_chance {l : Launch} {D : va_G} {c : Nat → ClassId} {b : Nat → Nat} {τ : MM} {x : Int32} {age : Int32} {S : SS} (hI : MI τ S) (hV : SV S)  : KI l D (tyE c) (mw c b) yX6_chance cX6_chance 4 .int (rmL 4) [.ref (b 0), .int x, .int age] τ (fun r u => r = (sp_chance S x age).1 ∧ MI u (sp_chance S x age).2) := by
  refine x_enterI (by decide) (Nat.le_of_ble_eq_true rfl) (fun F hl hD hn hRm hC hR => ?_)
  subst hl hD
  change XW F 0 0 (mw c b τ) [(0, .ref (b 0)), (1, .int x), (2, .int age)] 0 []
  change FC F cX6_chance RX6 (tyE c) at hC
  have hn1 := hV.n1
  have hn2 := hV.n2
  have hpn := hV.pn
  have hk6 := hV.k
  have hpk := hV.pk
  have hpk1 := SV.pk1 S
  have hch8 := hV.chips
  have hmk := hV.mask
  have hmk31 : S 0 1 < 2 ^ 31 := by omega
  refine x_iload_n hC 1 rfl dX6_chance_0 ?_
  refine x_aload_n hC 0 rfl dX6_chance_1 ?_
  refine x_get hC fl_X6_44 dX6_chance_2 0 rfl (v := .int (nI (S 0 0))) (xv hI.n) ?_
  refine x_callN hC cs_X6_73 (c_X6_isIn (x := x) (m := (S 0 0))  (by first | assumption | exact hI.mb | omega)) dX6_chance_5 [] rfl (Nat.le_of_ble_eq_true rfl) rfl (rm_ok hRm (by decide) (by decide)) ?_
  refine x_if_eqB hC 21 dX6_chance_8 rfl (fun h8 => ?_) (fun h8 => ?_)
  · -- 8 T
    refine x_iconst hC (v := (zI (-1))) dX6_chance_21 rfl ?_
    refine x_istore_n hC [(3, .int (zI (-1))), (0, .ref (b 0)), (1, .int x), (2, .int age)] rfl (lt_n hn rfl) dX6_chance_22 ?_
    refine x_iload_n hC 0 rfl dX6_chance_23 ?_
    refine x_if_eq_F hC 35 dX6_chance_24 rfl (by decide) ?_
    refine x_aload_n hC 1 rfl dX6_chance_27 ?_
    refine x_iload_n hC 0 rfl dX6_chance_28 ?_
    refine x_callVI hC cw_X6_94 (c_X6_refuse (z := (-1)) (j := 1) (v := (S 1 1)) (by decide) (by decide) (hI.ref 1 (by decide))) dX6_chance_29 [] rfl (Nat.le_of_ble_eq_true rfl) rfl (rm_ok hRm (by decide) (by decide)) 6 0 rfl rfl (fun r29 m29 hp29 => ?_)
    obtain ⟨rfl, rfl⟩ := hp29
    refine x_goto hC 41 dX6_chance_32 rfl ?_
    exact x_iret hC hR dX6_chance_41 (sp_leafM (by simp [sp_chance, h8, cof]) (hI.rfs 1 (by decide)))
  · -- 8 F
    obtain ⟨v, hv, rfl⟩ := isI_T h8
    have tv := tn_nI (v := v) (by omega)
    refine x_iload_n hC 2 rfl dX6_chance_11 ?_
    refine x_iconst hC (v := (nI 0)) dX6_chance_12 rfl ?_
    refine x_bipush hC (v := (nI 40)) dX6_chance_13 rfl ?_
    refine x_callN hC cs_X6_90 (c_X6_wrong (x := age) (lo := 0) (hi := 40)  ) dX6_chance_15 [] rfl (Nat.le_of_ble_eq_true rfl) rfl (rm_ok hRm (by decide) (by decide)) ?_
    rcases wr3_cases age 0 40 (by omega) (by omega) with ⟨w1, we⟩ | ⟨w1, w2, we⟩ | ⟨w1, w2, we, y, hy1, hy2, rfl⟩
    · skip
      refine x_top we ?_
      refine x_goto hC 22 dX6_chance_18 rfl ?_
      refine x_istore_n hC [(3, .int (zI (-4))), (0, .ref (b 0)), (1, .int (nI v)), (2, .int age)] rfl (lt_n hn rfl) dX6_chance_22 ?_
      refine x_iload_n hC 0 rfl dX6_chance_23 ?_
      refine x_if_eq_F hC 35 dX6_chance_24 rfl (by decide) ?_
      refine x_aload_n hC 1 rfl dX6_chance_27 ?_
      refine x_iload_n hC 0 rfl dX6_chance_28 ?_
      refine x_callVI hC cw_X6_94 (c_X6_refuse (z := (-4)) (j := 4) (v := (S 1 4)) (by decide) (by decide) (hI.ref 4 (by decide))) dX6_chance_29 [] rfl (Nat.le_of_ble_eq_true rfl) rfl (rm_ok hRm (by decide) (by decide)) 6 0 rfl rfl (fun r29 m29 hp29 => ?_)
      obtain ⟨rfl, rfl⟩ := hp29
      refine x_goto hC 41 dX6_chance_32 rfl ?_
      exact x_iret hC hR dX6_chance_41 (sp_leafM (by simp [sp_chance, h8, tv, w1, cof]) (hI.rfs 4 (by decide)))
    · skip
      refine x_top we ?_
      refine x_goto hC 22 dX6_chance_18 rfl ?_
      refine x_istore_n hC [(3, .int (zI (-6))), (0, .ref (b 0)), (1, .int (nI v)), (2, .int age)] rfl (lt_n hn rfl) dX6_chance_22 ?_
      refine x_iload_n hC 0 rfl dX6_chance_23 ?_
      refine x_if_eq_F hC 35 dX6_chance_24 rfl (by decide) ?_
      refine x_aload_n hC 1 rfl dX6_chance_27 ?_
      refine x_iload_n hC 0 rfl dX6_chance_28 ?_
      refine x_callVI hC cw_X6_94 (c_X6_refuse (z := (-6)) (j := 6) (v := (S 1 6)) (by decide) (by decide) (hI.ref 6 (by decide))) dX6_chance_29 [] rfl (Nat.le_of_ble_eq_true rfl) rfl (rm_ok hRm (by decide) (by decide)) 6 0 rfl rfl (fun r29 m29 hp29 => ?_)
      obtain ⟨rfl, rfl⟩ := hp29
      refine x_goto hC 41 dX6_chance_32 rfl ?_
      exact x_iret hC hR dX6_chance_41 (sp_leafM (by simp [sp_chance, h8, tv, w1, w2, cof]) (hI.rfs 6 (by decide)))
    · skip
      refine x_top we ?_
      have ty := tn_nI (v := y) (by omega)
      refine x_goto hC 22 dX6_chance_18 rfl ?_
      refine x_istore_n hC [(3, .int (nI 0)), (0, .ref (b 0)), (1, .int (nI v)), (2, .int (nI y))] rfl (lt_n hn rfl) dX6_chance_22 ?_
      refine x_iload_n hC 0 rfl dX6_chance_23 ?_
      refine x_if_eq_T hC 35 dX6_chance_24 rfl (by decide) ?_
      refine x_aload_n hC 1 rfl dX6_chance_35 ?_
      refine x_iload_n hC 2 rfl dX6_chance_36 ?_
      refine x_iload_n hC 3 rfl dX6_chance_37 ?_
      refine x_callVI hC cw_X6_117 (c_X6_chanceOf (i := v) (age := y) (S := S) (by first | assumption | exact hI.mb | omega) (by first | assumption | exact hI.mb | omega) (by first | assumption | exact hI.mb | omega) (by first | assumption | exact hI.mb | omega)) dX6_chance_38 [] rfl (Nat.le_of_ble_eq_true rfl) rfl (rm_ok hRm (by decide) (by decide)) 6 0 rfl rfl (fun r38 m38 hp38 => ?_)
      obtain ⟨rfl, rfl⟩ := hp38
      exact x_iret hC hR dX6_chance_41 (sp_leafM (by simp [sp_chance, h8, tv, w1, w2, ty, cof]) (hI))
set_option maxHeartbeats 4000000 in
set_option maxRecDepth 100000 in
theorem c_X6_masks {l : Launch} {D : va_G} {c : Nat → ClassId} {b : Nat → Nat} {τ : MM} {m : Nat} {S : SS} (hI : MI τ S) (hV : SV S) (hm : m < 2 ^ 31) : KV l D (tyE c) (mw c b) yX6_masks cX6_masks 2 (rmL 3) [.ref (b 0), .int (nI m)] τ (fun u => MI u (smask S m)) := by
  refine x_enterV (by decide) (Nat.le_of_ble_eq_true rfl) (fun F hl hD hn hRm hC hR => ?_)
  subst hl hD
  change XW F 0 0 (mw c b τ) [(0, .ref (b 0)), (1, .int (nI m))] 0 []
  change FC F cX6_masks RX6 (tyE c) at hC
  have hn1 := hV.n1
  have hn2 := hV.n2
  have hpn := hV.pn
  have hk6 := hV.k
  have hpk := hV.pk
  have hpk1 := SV.pk1 S
  have hch8 := hV.chips
  have hmk := hV.mask
  have hmk31 : S 0 1 < 2 ^ 31 := by omega
  refine x_iload_n hC 1 rfl dX6_masks_0 ?_
  refine x_aload_n hC 0 rfl dX6_masks_1 ?_
  refine x_get hC fl_X6_77 dX6_masks_2 0 rfl (v := .int (nI (S 0 1))) (xv hI.mask) ?_
  refine x_icmp_neN hC 9 dX6_masks_5 rfl (by omega) (by omega) (fun h5 => ?_) (fun h5 => ?_)
  · -- 5 T
    refine x_aload_n hC 0 rfl dX6_masks_9 ?_
    refine x_iload_n hC 1 rfl dX6_masks_10 ?_
    refine x_put hC fp_X6_77 dX6_masks_11 0 rfl rfl rfl (Nat.le_of_ble_eq_true rfl) (mw c b (mup τ 0 2 (nI m))) rfl ?_
    refine x_aload_n hC 0 rfl dX6_masks_14 ?_
    refine x_callVV hC cw_X6_101 (c_X6_noRows   ) dX6_masks_15 [] rfl (Nat.le_of_ble_eq_true rfl) rfl (rm_ok hRm (by decide) (by decide)) 6 0 rfl rfl (fun m15 hp15 => ?_)
    obtain ⟨f, rfl, hf⟩ := hp15
    exact x_vret hC hR dX6_masks_18 (hI.maskc m h5 hch8 hf)
  · -- 5 F
    exact x_vret hC hR dX6_masks_8 (by rw [smask, if_pos h5]; exact hI)
set_option maxHeartbeats 4000000 in
set_option maxRecDepth 100000 in
theorem c_X6_mask {l : Launch} {D : va_G} {c : Nat → ClassId} {b : Nat → Nat} {τ : MM} {x : Int32} {S : SS} (hI : MI τ S) (hV : SV S)  : KI l D (tyE c) (mw c b) yX6_mask cX6_mask 3 .int (rmL 4) [.ref (b 0), .int x] τ (fun r u => r = (sp_mask S x).1 ∧ MI u (sp_mask S x).2) := by
  refine x_enterI (by decide) (Nat.le_of_ble_eq_true rfl) (fun F hl hD hn hRm hC hR => ?_)
  subst hl hD
  change XW F 0 0 (mw c b τ) [(0, .ref (b 0)), (1, .int x)] 0 []
  change FC F cX6_mask RX6 (tyE c) at hC
  have hn1 := hV.n1
  have hn2 := hV.n2
  have hpn := hV.pn
  have hk6 := hV.k
  have hpk := hV.pk
  have hpk1 := SV.pk1 S
  have hch8 := hV.chips
  have hmk := hV.mask
  have hmk31 : S 0 1 < 2 ^ 31 := by omega
  refine x_aload_n hC 0 rfl dX6_mask_0 ?_
  refine x_iload_n hC 1 rfl dX6_mask_1 ?_
  refine x_callVI hC cw_X6_104 (c_X6_isWord (x := x) (S := S) (by first | assumption | exact hI.mb | omega) (by first | assumption | exact hI.mb | omega)) dX6_mask_2 [] rfl (Nat.le_of_ble_eq_true rfl) rfl (rm_ok hRm (by decide) (by decide)) 6 0 rfl rfl (fun r2 m2 hp2 => ?_)
  obtain ⟨rfl, rfl⟩ := hp2
  refine x_if_neB hC 14 dX6_mask_5 rfl (fun h5 => ?_) (fun h5 => ?_)
  · -- 5 T
    obtain ⟨v, hv, rfl⟩ := isI_T h5
    have tv := tn_nI (v := v) (by omega)
    refine x_aload_n hC 0 rfl dX6_mask_14 ?_
    refine x_get hC fl_X6_77 dX6_mask_15 0 rfl (v := .int (nI (S 0 1))) (xv hI.mask) ?_
    refine x_istore_n hC [(2, .int (nI (S 0 1))), (0, .ref (b 0)), (1, .int (nI v))] rfl (lt_n hn rfl) dX6_mask_18 ?_
    refine x_aload_n hC 1 rfl dX6_mask_19 ?_
    refine x_iload_n hC 2 rfl dX6_mask_20 ?_
    refine x_callVV hC cw_X6_120 (c_X6_masks (m := v) (S := S) (by first | assumption | exact hI.mb | omega) (by first | assumption | exact hI.mb | omega) (by first | assumption | exact hI.mb | omega)) dX6_mask_21 [] rfl (Nat.le_of_ble_eq_true rfl) rfl (rm_ok hRm (by decide) (by decide)) 6 0 rfl rfl (fun m21 hp21 => ?_)
    refine x_iload_n hC 0 rfl dX6_mask_24 ?_
    exact x_iret hC hR dX6_mask_25 (sp_leafM (by simp [sp_mask, h5, tv]) (hp21))
  · -- 5 F
    refine x_aload_n hC 0 rfl dX6_mask_8 ?_
    refine x_iconst hC (v := (zI (-1))) dX6_mask_9 rfl ?_
    refine x_callVI hC cw_X6_94 (c_X6_refuse (z := (-1)) (j := 1) (v := (S 1 1)) (by decide) (by decide) (hI.ref 1 (by decide))) dX6_mask_10 [] rfl (Nat.le_of_ble_eq_true rfl) rfl (rm_ok hRm (by decide) (by decide)) 6 0 rfl rfl (fun r10 m10 hp10 => ?_)
    obtain ⟨rfl, rfl⟩ := hp10
    exact x_iret hC hR dX6_mask_13 (sp_leafM (by simp [sp_mask, h5]) (hI.rfs 1 (by decide)))
set_option maxHeartbeats 4000000 in
set_option maxRecDepth 100000 in
theorem c_X6_maskBy {l : Launch} {D : va_G} {c : Nat → ClassId} {b : Nat → Nat} {τ : MM} {age : Int32} {most : Int32} {S : SS} (hI : MI τ S) (hV : SV S)  : KI l D (tyE c) (mw c b) yX6_maskBy cX6_maskBy 5 .int (rmL 4) [.ref (b 0), .int age, .int most] τ (fun r u => r = (sp_maskBy S age most).1 ∧ MI u (sp_maskBy S age most).2) := by
  refine x_enterI (by decide) (Nat.le_of_ble_eq_true rfl) (fun F hl hD hn hRm hC hR => ?_)
  subst hl hD
  change XW F 0 0 (mw c b τ) [(0, .ref (b 0)), (1, .int age), (2, .int most)] 0 []
  change FC F cX6_maskBy RX6 (tyE c) at hC
  have hn1 := hV.n1
  have hn2 := hV.n2
  have hpn := hV.pn
  have hk6 := hV.k
  have hpk := hV.pk
  have hpk1 := SV.pk1 S
  have hch8 := hV.chips
  have hmk := hV.mask
  have hmk31 : S 0 1 < 2 ^ 31 := by omega
  refine x_iload_n hC 1 rfl dX6_maskBy_0 ?_
  refine x_if_lt hC 8 dX6_maskBy_1 rfl (fun h1 => ?_) (fun h1 => ?_)
  · -- 1 T
    have g1 : age < nI 0 := by first | exact i32_nlt h1 | exact i32_nlt' h1 | exact h1
    refine x_aload_n hC 0 rfl dX6_maskBy_8 ?_
    refine x_bipush hC (v := (zI (-4))) dX6_maskBy_9 rfl ?_
    refine x_callVI hC cw_X6_94 (c_X6_refuse (z := (-4)) (j := 4) (v := (S 1 4)) (by decide) (by decide) (hI.ref 4 (by decide))) dX6_maskBy_11 [] rfl (Nat.le_of_ble_eq_true rfl) rfl (rm_ok hRm (by decide) (by decide)) 6 0 rfl rfl (fun r11 m11 hp11 => ?_)
    obtain ⟨rfl, rfl⟩ := hp11
    exact x_iret hC hR dX6_maskBy_14 (sp_leafM (by simp [sp_maskBy, g1]) (hI.rfs 4 (by decide)))
  · -- 1 F
    have g1 : ¬ age < nI 0 := by first | exact i32_nlt h1 | exact i32_nlt' h1 | exact h1
    refine x_iload_n hC 2 rfl dX6_maskBy_4 ?_
    refine x_if_ge hC 15 dX6_maskBy_5 rfl (fun h5 => ?_) (fun h5 => ?_)
    · -- 5 T
      have g5 : ¬ most < nI 0 := by first | exact i32_nlt h5 | exact i32_nlt' h5 | exact h5
      refine x_iload_n hC 1 rfl dX6_maskBy_15 ?_
      refine x_bipush hC (v := (nI 40)) dX6_maskBy_16 rfl ?_
      refine x_icmp_gt hC 26 dX6_maskBy_18 rfl (fun h18 => ?_) (fun h18 => ?_)
      · -- 18 T
        have g18 : nI 40 < age := by first | exact i32_nlt h18 | exact i32_nlt' h18 | exact h18
        refine x_aload_n hC 0 rfl dX6_maskBy_26 ?_
        refine x_bipush hC (v := (zI (-6))) dX6_maskBy_27 rfl ?_
        refine x_callVI hC cw_X6_94 (c_X6_refuse (z := (-6)) (j := 6) (v := (S 1 6)) (by decide) (by decide) (hI.ref 6 (by decide))) dX6_maskBy_29 [] rfl (Nat.le_of_ble_eq_true rfl) rfl (rm_ok hRm (by decide) (by decide)) 6 0 rfl rfl (fun r29 m29 hp29 => ?_)
        obtain ⟨rfl, rfl⟩ := hp29
        exact x_iret hC hR dX6_maskBy_32 (sp_leafM (by simp [sp_maskBy, g1, g5, g18]) (hI.rfs 6 (by decide)))
      · -- 18 F
        have g18 : ¬ nI 40 < age := by first | exact i32_nlt h18 | exact i32_nlt' h18 | exact h18
        refine x_iload_n hC 2 rfl dX6_maskBy_21 ?_
        refine x_iconst hC (v := (nI 4)) dX6_maskBy_22 rfl ?_
        refine x_icmp_le hC 33 dX6_maskBy_23 rfl (fun h23 => ?_) (fun h23 => ?_)
        · -- 23 T
          have g23 : ¬ nI 4 < most := by first | exact i32_nlt h23 | exact i32_nlt' h23 | exact h23
          obtain ⟨y, hy1, hy2, rfl⟩ := rng (lo := 0) (hi := 40) (by decide) (by decide) g1 g18
          have ty := tn_nI (v := y) (by omega)
          obtain ⟨z, hz1, hz2, rfl⟩ := rng (lo := 0) (hi := 4) (by decide) (by decide) g5 g23
          have tz := tn_nI (v := z) (by omega)
          refine x_iconst hC (v := (nI 0)) dX6_maskBy_33 rfl ?_
          refine x_istore_n hC [(3, .int (nI 0)), (0, .ref (b 0)), (1, .int (nI y)), (2, .int (nI z))] rfl (lt_n hn rfl) dX6_maskBy_34 ?_
          refine x_iconst hC (v := (nI 0)) dX6_maskBy_35 rfl ?_
          refine x_istore hC [(4, .int (nI 0)), (3, .int (nI 0)), (0, .ref (b 0)), (1, .int (nI y)), (2, .int (nI z))] rfl (lt_n hn rfl) dX6_maskBy_36 ?_
          refine x_lv [2, 3, 4, 1, 0] rfl ?_
          have L38 : ∀ (N38 : Nat) (s : Nat) (i : Nat), S 0 0 - i < N38 → (s = lkx (agS S y) z i) → (i ≤ S 0 0) → XW F 0 0 (mw c b τ) [(0, .ref (b 0)), (1, .int (nI y)), (2, .int (nI z)), (3, .int (nI s)), (4, .int (nI i))] 38 [] := by
            intro N38
            induction N38 with
            | zero => intro s i hN38 hs hi; exact absurd hN38 (by omega)
            | succ N38 ih38 =>
              intro s i hN38 hs hi
              refine x_iload hC 4 rfl dX6_maskBy_38 ?_
              refine x_aload_n hC 0 rfl dX6_maskBy_40 ?_
              refine x_get hC fl_X6_44 dX6_maskBy_41 0 rfl (v := .int (nI (S 0 0))) (xv hI.n) ?_
              refine x_icmp_geN hC 71 dX6_maskBy_44 rfl (by omega) (by omega) (fun h44 => ?_) (fun h44 => ?_)
              · -- 44 T
                refine x_aload_n hC 0 rfl dX6_maskBy_71 ?_
                refine x_iload_n hC 3 rfl dX6_maskBy_72 ?_
                refine x_callVV hC cw_X6_120 (c_X6_masks (m := s) (S := S) hI hV (by have := lkx_lt (agS S y) z i; rw [hs]; have : 2 ^ i ≤ 16384 := pow_lt31 (by omega); omega)) dX6_maskBy_73 [] rfl (Nat.le_of_ble_eq_true rfl) rfl (rm_ok hRm (by decide) (by decide)) 6 0 rfl rfl (fun m73 hp73 => ?_)
                refine x_iload_n hC 3 rfl dX6_maskBy_76 ?_
                exact x_iret hC hR dX6_maskBy_77 (sp_leafM (by simp only [sp_maskBy, g1, g5, g18, g23, or_self, if_false, ty, tz]; rw [hs, show i = S 0 0 by omega]) hp73)
              · -- 44 F
                refine x_aload_n hC 0 rfl dX6_maskBy_47 ?_
                refine x_iload hC 4 rfl dX6_maskBy_48 ?_
                refine x_iload_n hC 1 rfl dX6_maskBy_50 ?_
                refine x_callVI hC cw_X6_114 (c_X6_worn (i := i) (age := y) (S := S) (by first | assumption | exact hI.mb | omega) (by first | assumption | exact hI.mb | omega) (by first | assumption | exact hI.mb | omega) (by first | assumption | exact hI.mb | omega)) dX6_maskBy_51 [] rfl (Nat.le_of_ble_eq_true rfl) rfl (rm_ok hRm (by decide) (by decide)) 6 0 rfl rfl (fun r51 m51 hp51 => ?_)
                obtain ⟨rfl, rfl⟩ := hp51
                refine x_iload_n hC 2 rfl dX6_maskBy_54 ?_
                refine x_icmp_leN hC 65 dX6_maskBy_55 rfl (by have := agS_le S y i; omega) (by omega) (fun h55 => ?_) (fun h55 => ?_)
                · -- 55 T
                  refine x_iinc hC (z := 1) (v := (nI (i + 1))) 4 rfl (nI_add i 1) [(4, .int (nI (i + 1))), (0, .ref (b 0)), (1, .int (nI y)), (2, .int (nI z)), (3, .int (nI s))] rfl (lt_n hn rfl) dX6_maskBy_65 ?_
                  refine x_goto hC 38 dX6_maskBy_68 rfl ?_
                  refine x_lv [1, 2, 3, 4, 0] rfl ?_
                  exact ih38 s (i + 1) (by omega) (by rw [hs]; exact (if_neg (Nat.not_lt.mpr h55)).symm) (by omega)
                · -- 55 F
                  refine x_iload_n hC 3 rfl dX6_maskBy_58 ?_
                  refine x_iconst hC (v := (nI 1)) dX6_maskBy_59 rfl ?_
                  refine x_iload hC 4 rfl dX6_maskBy_60 ?_
                  refine x_ishlE hC (z := (nI (2 ^ i))) (nI_shl1 (by omega)) dX6_maskBy_62 ?_
                  refine x_iorE hC (z := (nI (s ||| (2 ^ i)))) (nI_or _ _) dX6_maskBy_63 ?_
                  refine x_istore_n hC [(3, .int (nI (s ||| (2 ^ i)))), (0, .ref (b 0)), (1, .int (nI y)), (2, .int (nI z)), (4, .int (nI i))] rfl (lt_n hn rfl) dX6_maskBy_64 ?_
                  refine x_iinc hC (z := 1) (v := (nI (i + 1))) 4 rfl (nI_add i 1) [(4, .int (nI (i + 1))), (3, .int (nI (s ||| (2 ^ i)))), (0, .ref (b 0)), (1, .int (nI y)), (2, .int (nI z))] rfl (lt_n hn rfl) dX6_maskBy_65 ?_
                  refine x_goto hC 38 dX6_maskBy_68 rfl ?_
                  refine x_lv [2, 3, 4, 1, 0] rfl ?_
                  exact ih38 (s ||| (2 ^ i)) (i + 1) (by omega) (by rw [hs]; exact (if_pos h55).symm) (by omega)
          exact L38 _ 0 0 (Nat.lt_succ_self _) rfl (by omega)
        · -- 23 F
          have g23 : nI 4 < most := by first | exact i32_nlt h23 | exact i32_nlt' h23 | exact h23
          refine x_aload_n hC 0 rfl dX6_maskBy_26 ?_
          refine x_bipush hC (v := (zI (-6))) dX6_maskBy_27 rfl ?_
          refine x_callVI hC cw_X6_94 (c_X6_refuse (z := (-6)) (j := 6) (v := (S 1 6)) (by decide) (by decide) (hI.ref 6 (by decide))) dX6_maskBy_29 [] rfl (Nat.le_of_ble_eq_true rfl) rfl (rm_ok hRm (by decide) (by decide)) 6 0 rfl rfl (fun r29 m29 hp29 => ?_)
          obtain ⟨rfl, rfl⟩ := hp29
          exact x_iret hC hR dX6_maskBy_32 (sp_leafM (by simp [sp_maskBy, g1, g5, g18, g23]) (hI.rfs 6 (by decide)))
    · -- 5 F
      have g5 : most < nI 0 := by first | exact i32_nlt h5 | exact i32_nlt' h5 | exact h5
      refine x_aload_n hC 0 rfl dX6_maskBy_8 ?_
      refine x_bipush hC (v := (zI (-4))) dX6_maskBy_9 rfl ?_
      refine x_callVI hC cw_X6_94 (c_X6_refuse (z := (-4)) (j := 4) (v := (S 1 4)) (by decide) (by decide) (hI.ref 4 (by decide))) dX6_maskBy_11 [] rfl (Nat.le_of_ble_eq_true rfl) rfl (rm_ok hRm (by decide) (by decide)) 6 0 rfl rfl (fun r11 m11 hp11 => ?_)
      obtain ⟨rfl, rfl⟩ := hp11
      exact x_iret hC hR dX6_maskBy_14 (sp_leafM (by simp [sp_maskBy, g1, g5]) (hI.rfs 4 (by decide)))
set_option maxHeartbeats 4000000 in
set_option maxRecDepth 100000 in
theorem c_X6_codewordOf {l : Launch} {D : va_G} {c : Nat → ClassId} {b : Nat → Nat} {τ : MM} {key : Nat} {S : SS} (hI : MB τ S) (hV : SV S) (hkey : key < 2 ^ 31) : KI l D (tyE c) (mw c b) yX6_codewordOf cX6_codewordOf 4 .int (rmL 1) [.ref (b 0), .int (nI key)] τ (fun r u => r = nI (cw S key) ∧ τ = u) := by
  refine x_enterI (by decide) (Nat.le_of_ble_eq_true rfl) (fun F hl hD hn hRm hC hR => ?_)
  subst hl hD
  change XW F 0 0 (mw c b τ) [(0, .ref (b 0)), (1, .int (nI key))] 0 []
  change FC F cX6_codewordOf RX6 (tyE c) at hC
  have hn1 := hV.n1
  have hn2 := hV.n2
  have hpn := hV.pn
  have hk6 := hV.k
  have hpk := hV.pk
  have hpk1 := SV.pk1 S
  have hch8 := hV.chips
  have hmk := hV.mask
  have hmk31 : S 0 1 < 2 ^ 31 := by omega
  refine x_iconst hC (v := (nI 0)) dX6_codewordOf_0 rfl ?_
  refine x_istore_n hC [(2, .int (nI 0)), (0, .ref (b 0)), (1, .int (nI key))] rfl (lt_n hn rfl) dX6_codewordOf_1 ?_
  refine x_iconst hC (v := (nI 0)) dX6_codewordOf_2 rfl ?_
  refine x_istore_n hC [(3, .int (nI 0)), (2, .int (nI 0)), (0, .ref (b 0)), (1, .int (nI key))] rfl (lt_n hn rfl) dX6_codewordOf_3 ?_
  refine x_lv [2, 3, 1, 0] rfl ?_
  have L4 : ∀ (N4 : Nat) (s : Nat) (i : Nat), S 0 2 - i < N4 → (s = cwx (S 9) key i) → (i ≤ S 0 2) → XW F 0 0 (mw c b τ) [(0, .ref (b 0)), (1, .int (nI key)), (2, .int (nI s)), (3, .int (nI i))] 4 [] := by
    intro N4
    induction N4 with
    | zero => intro s i hN4 hs hi; exact absurd hN4 (by omega)
    | succ N4 ih4 =>
      intro s i hN4 hs hi
      refine x_iload_n hC 3 rfl dX6_codewordOf_4 ?_
      refine x_aload_n hC 0 rfl dX6_codewordOf_5 ?_
      refine x_get hC fl_X6_80 dX6_codewordOf_6 0 rfl (v := .int (nI (S 0 2))) (xv hI.k) ?_
      refine x_icmp_geN hC 36 dX6_codewordOf_9 rfl (by omega) (by omega) (fun h9 => ?_) (fun h9 => ?_)
      · -- 9 T
        refine x_iload_n hC 2 rfl dX6_codewordOf_36 ?_
        exact x_iret hC hR dX6_codewordOf_37 (⟨by rw [hs, show i = S 0 2 by omega]; rfl, rfl⟩)
      · -- 9 F
        refine x_iload_n hC 1 rfl dX6_codewordOf_12 ?_
        refine x_iload_n hC 3 rfl dX6_codewordOf_13 ?_
        refine x_ishrE hC (z := (nI (key / 2 ^ i))) (nI_shr (by omega) (by omega)) dX6_codewordOf_14 ?_
        refine x_iconst hC (v := (nI 1)) dX6_codewordOf_15 rfl ?_
        refine x_iandE hC (z := (nI (bt key i))) (nI_and1 _) dX6_codewordOf_16 ?_
        refine x_iconst hC (v := (nI 1)) dX6_codewordOf_17 rfl ?_
        refine x_icmp_neN hC 30 dX6_codewordOf_18 rfl (by have := bt_lt key i; omega) (by decide) (fun h18 => ?_) (fun h18 => ?_)
        · -- 18 T
          refine x_iinc hC (z := 1) (v := (nI (i + 1))) 3 rfl (nI_add i 1) [(3, .int (nI (i + 1))), (0, .ref (b 0)), (1, .int (nI key)), (2, .int (nI s))] rfl (lt_n hn rfl) dX6_codewordOf_30 ?_
          refine x_goto hC 4 dX6_codewordOf_33 rfl ?_
          refine x_lv [1, 2, 3, 0] rfl ?_
          exact ih4 s (i + 1) (by omega) (by rw [hs]; exact (if_neg h18).symm) (by omega)
        · -- 18 F
          refine x_iload_n hC 2 rfl dX6_codewordOf_21 ?_
          refine x_aload_n hC 0 rfl dX6_codewordOf_22 ?_
          refine x_get hC fl_X6_31 dX6_codewordOf_23 0 rfl rfl ?_
          refine x_iload_n hC 3 rfl dX6_codewordOf_26 ?_
          refine x_iald hC 8 0 rfl rfl (y := (nI (S 9 i))) (by omega) (by decide) (hI.rows i (by omega)) dX6_codewordOf_27 ?_
          refine x_ixorE hC (z := (nI (s ^^^ (S 9 i)))) (nI_xor _ _) dX6_codewordOf_28 ?_
          refine x_istore_n hC [(2, .int (nI (s ^^^ (S 9 i)))), (0, .ref (b 0)), (1, .int (nI key)), (3, .int (nI i))] rfl (lt_n hn rfl) dX6_codewordOf_29 ?_
          refine x_iinc hC (z := 1) (v := (nI (i + 1))) 3 rfl (nI_add i 1) [(3, .int (nI (i + 1))), (2, .int (nI (s ^^^ (S 9 i)))), (0, .ref (b 0)), (1, .int (nI key))] rfl (lt_n hn rfl) dX6_codewordOf_30 ?_
          refine x_goto hC 4 dX6_codewordOf_33 rfl ?_
          refine x_lv [2, 3, 1, 0] rfl ?_
          exact ih4 (s ^^^ (S 9 i)) (i + 1) (by omega) (by rw [hs]; exact (if_pos h18).symm) (by omega)
  exact L4 _ 0 0 (Nat.lt_succ_self _) rfl (by omega)
set_option maxHeartbeats 4000000 in
set_option maxRecDepth 100000 in
theorem c_X6_row {l : Launch} {D : va_G} {c : Nat → ClassId} {b : Nat → Nat} {τ : MM} {x : Int32} {S : SS} (hI : MI τ S) (hV : SV S)  : KI l D (tyE c) (mw c b) yX6_row cX6_row 4 .int (rmL 3) [.ref (b 0), .int x] τ (fun r u => r = (sp_row S x).1 ∧ MI u (sp_row S x).2) := by
  refine x_enterI (by decide) (Nat.le_of_ble_eq_true rfl) (fun F hl hD hn hRm hC hR => ?_)
  subst hl hD
  change XW F 0 0 (mw c b τ) [(0, .ref (b 0)), (1, .int x)] 0 []
  change FC F cX6_row RX6 (tyE c) at hC
  have hn1 := hV.n1
  have hn2 := hV.n2
  have hpn := hV.pn
  have hk6 := hV.k
  have hpk := hV.pk
  have hpk1 := SV.pk1 S
  have hch8 := hV.chips
  have hmk := hV.mask
  have hmk31 : S 0 1 < 2 ^ 31 := by omega
  refine x_aload_n hC 0 rfl dX6_row_0 ?_
  refine x_iload_n hC 1 rfl dX6_row_1 ?_
  refine x_callVI hC cw_X6_104 (c_X6_isWord (x := x) (S := S) (by first | assumption | exact hI.mb | omega) (by first | assumption | exact hI.mb | omega)) dX6_row_2 [] rfl (Nat.le_of_ble_eq_true rfl) rfl (rm_ok hRm (by decide) (by decide)) 6 0 rfl rfl (fun r2 m2 hp2 => ?_)
  obtain ⟨rfl, rfl⟩ := hp2
  refine x_if_neB hC 14 dX6_row_5 rfl (fun h5 => ?_) (fun h5 => ?_)
  · -- 5 T
    obtain ⟨v, hv, rfl⟩ := isI_T h5
    have tv := tn_nI (v := v) (by omega)
    refine x_iload_n hC 1 rfl dX6_row_14 ?_
    refine x_aload_n hC 0 rfl dX6_row_15 ?_
    refine x_callVI hC cw_X6_124 (c_X6_open  (S := S) (by first | assumption | exact hI.mb | omega) (by first | assumption | exact hI.mb | omega)) dX6_row_16 [.int (nI v)] rfl (Nat.le_of_ble_eq_true rfl) rfl (rm_ok hRm (by decide) (by decide)) 6 0 rfl rfl (fun r16 m16 hp16 => ?_)
    obtain ⟨rfl, rfl⟩ := hp16
    refine x_iandE hC (z := (nI (nd v (S 0 1)))) ((nI_and _ _).trans (congrArg nI (and_open hv))) dX6_row_19 ?_
    refine x_istore_n hC [(2, .int (nI (nd v (S 0 1)))), (0, .ref (b 0)), (1, .int (nI v))] rfl (lt_n hn rfl) dX6_row_20 ?_
    refine x_iconst hC (v := (nI 0)) dX6_row_21 rfl ?_
    refine x_istore_n hC [(3, .int (nI 0)), (2, .int (nI (nd v (S 0 1)))), (0, .ref (b 0)), (1, .int (nI v))] rfl (lt_n hn rfl) dX6_row_22 ?_
    refine x_lv [2, 1, 0] rfl ?_
    have L23 : ∀ (N23 : Nat) (i : Nat), 2 ^ S 0 2 - i < N23 → (i ≤ 2 ^ S 0 2) → (∀ j, j < i → cw S j ≠ nd v (S 0 1)) → XW F 0 0 (mw c b τ) [(0, .ref (b 0)), (2, .int (nI (nd v (S 0 1)))), (3, .int (nI i))] 23 [] := by
      intro N23
      induction N23 with
      | zero => intro i hN23 hi hall; exact absurd hN23 (by omega)
      | succ N23 ih23 =>
        intro i hN23 hi hall
        refine x_iload_n hC 2 rfl dX6_row_23 ?_
        refine x_iconst hC (v := (nI 1)) dX6_row_24 rfl ?_
        refine x_aload_n hC 0 rfl dX6_row_25 ?_
        refine x_get hC fl_X6_80 dX6_row_26 0 rfl (v := .int (nI (S 0 2))) (xv hI.k) ?_
        refine x_ishlE hC (z := (nI (2 ^ (S 0 2)))) (nI_shl1 (by omega)) dX6_row_29 ?_
        refine x_icmp_geN hC 55 dX6_row_30 rfl (by omega) (by omega) (fun h30 => ?_) (fun h30 => ?_)
        · -- 30 T
          have g30 : hol (cw S) (2 ^ S 0 2) (nd v (S 0 1)) = false := hol_F (fun j hj => hall j (by omega))
          refine x_aload_n hC 0 rfl dX6_row_55 ?_
          refine x_get hC fl_X6_80 dX6_row_56 0 rfl (v := .int (nI (S 0 2))) (xv hI.k) ?_
          refine x_bipush hC (v := (nI 6)) dX6_row_59 rfl ?_
          refine x_icmp_neN hC 71 dX6_row_61 rfl (by omega) (by decide) (fun h61 => ?_) (fun h61 => ?_)
          · -- 61 T
            have g61 : S 0 2 < 6 := by omega
            refine x_aload_n hC 0 rfl dX6_row_71 ?_
            refine x_get hC fl_X6_31 dX6_row_72 0 rfl rfl ?_
            refine x_aload_n hC 0 rfl dX6_row_75 ?_
            refine x_get hC fl_X6_80 dX6_row_76 0 rfl (v := .int (nI (S 0 2))) (xv hI.k) ?_
            refine x_iload_n hC 1 rfl dX6_row_79 ?_
            refine x_iast hC 8 0 rfl rfl (by omega) (by decide) (mw c b (mup τ 8 (S 0 2) (nI (nd v (S 0 1))))) rfl dX6_row_80 ?_
            refine x_aload_n hC 0 rfl dX6_row_81 ?_
            refine x_dup hC rfl dX6_row_82 ?_
            refine x_get hC fl_X6_80 dX6_row_83 0 rfl (v := .int (nI (S 0 2))) (xv hI.k) ?_
            refine x_iconst hC (v := (nI 1)) dX6_row_86 rfl ?_
            refine x_iaddE hC (z := (nI ((S 0 2) + 1))) (nI_add _ _) dX6_row_87 ?_
            refine x_put hC fp_X6_80 dX6_row_88 0 rfl rfl rfl (Nat.le_of_ble_eq_true rfl) (mw c b (mup (mup τ 8 (S 0 2) (nI (nd v (S 0 1)))) 0 3 (nI ((S 0 2) + 1)))) rfl ?_
            refine x_aload_n hC 0 rfl dX6_row_91 ?_
            refine x_callVV hC cw_X6_83 (c_X6_noHelp   ) dX6_row_92 [] rfl (Nat.le_of_ble_eq_true rfl) rfl (rm_ok hRm (by decide) (by decide)) 6 0 rfl rfl (fun m92 hp92 => ?_)
            obtain ⟨f, rfl, hf⟩ := hp92
            refine x_aload_n hC 0 rfl dX6_row_95 ?_
            refine x_get hC fl_X6_80 dX6_row_96 0 rfl (v := .int (nI (S 0 2 + 1))) rfl ?_
            exact x_iret hC hR dX6_row_99 (sp_leafM (by simp [sp_row, h5, g30, g61, tv]) (hI.rowc (nd v (S 0 1)) hch8 hf))
          · -- 61 F
            have g61 : ¬ S 0 2 < 6 := by omega
            refine x_aload_n hC 0 rfl dX6_row_64 ?_
            refine x_bipush hC (v := (zI (-6))) dX6_row_65 rfl ?_
            refine x_callVI hC cw_X6_94 (c_X6_refuse (z := (-6)) (j := 6) (v := (S 1 6)) (by decide) (by decide) (hI.ref 6 (by decide))) dX6_row_67 [] rfl (Nat.le_of_ble_eq_true rfl) rfl (rm_ok hRm (by decide) (by decide)) 6 0 rfl rfl (fun r67 m67 hp67 => ?_)
            obtain ⟨rfl, rfl⟩ := hp67
            exact x_iret hC hR dX6_row_70 (sp_leafM (by simp [sp_row, h5, g30, g61, tv]) (hI.rfs 6 (by decide)))
        · -- 30 F
          refine x_aload_n hC 0 rfl dX6_row_33 ?_
          refine x_iload_n hC 2 rfl dX6_row_34 ?_
          refine x_callVI hC cw_X6_128 (c_X6_codewordOf (key := i) (S := S) (by first | assumption | exact hI.mb | omega) (by first | assumption | exact hI.mb | omega) (by first | assumption | exact hI.mb | omega)) dX6_row_35 [] rfl (Nat.le_of_ble_eq_true rfl) rfl (rm_ok hRm (by decide) (by decide)) 6 0 rfl rfl (fun r35 m35 hp35 => ?_)
          obtain ⟨rfl, rfl⟩ := hp35
          refine x_iload_n hC 1 rfl dX6_row_38 ?_
          refine x_icmp_neN hC 49 dX6_row_39 rfl (by have := cw_lt hV i; omega) (by have := nd_le v (S 0 1); omega) (fun h39 => ?_) (fun h39 => ?_)
          · -- 39 T
            refine x_iinc hC (z := 1) (v := (nI (i + 1))) 2 rfl (nI_add i 1) [(3, .int (nI (i + 1))), (0, .ref (b 0)), (2, .int (nI (nd v (S 0 1))))] rfl (lt_n hn rfl) dX6_row_49 ?_
            refine x_goto hC 23 dX6_row_52 rfl ?_
            refine x_lv [1, 2, 0] rfl ?_
            exact ih23 (i + 1) (by omega) (by omega) (fun j hj => by rcases Nat.lt_succ_iff_lt_or_eq.mp hj with q | q; exact hall j q; rw [q]; exact h39)
          · -- 39 F
            have g39 : hol (cw S) (2 ^ S 0 2) (nd v (S 0 1)) = true := hol_T (by omega) h39
            refine x_aload_n hC 0 rfl dX6_row_42 ?_
            refine x_bipush hC (v := (zI (-3))) dX6_row_43 rfl ?_
            refine x_callVI hC cw_X6_94 (c_X6_refuse (z := (-3)) (j := 3) (v := (S 1 3)) (by decide) (by decide) (hI.ref 3 (by decide))) dX6_row_45 [] rfl (Nat.le_of_ble_eq_true rfl) rfl (rm_ok hRm (by decide) (by decide)) 6 0 rfl rfl (fun r45 m45 hp45 => ?_)
            obtain ⟨rfl, rfl⟩ := hp45
            exact x_iret hC hR dX6_row_48 (sp_leafM (by simp [sp_row, h5, g39, tv]) (hI.rfs 3 (by decide)))
    exact L23 _ 0 (Nat.lt_succ_self _) (by omega) (fun j h => absurd h (by omega))
  · -- 5 F
    refine x_aload_n hC 0 rfl dX6_row_8 ?_
    refine x_iconst hC (v := (zI (-1))) dX6_row_9 rfl ?_
    refine x_callVI hC cw_X6_94 (c_X6_refuse (z := (-1)) (j := 1) (v := (S 1 1)) (by decide) (by decide) (hI.ref 1 (by decide))) dX6_row_10 [] rfl (Nat.le_of_ble_eq_true rfl) rfl (rm_ok hRm (by decide) (by decide)) 6 0 rfl rfl (fun r10 m10 hp10 => ?_)
    obtain ⟨rfl, rfl⟩ := hp10
    exact x_iret hC hR dX6_row_13 (sp_leafM (by simp [sp_row, h5]) (hI.rfs 1 (by decide)))
set_option maxHeartbeats 4000000 in
set_option maxRecDepth 100000 in
theorem c_X6_distance {l : Launch} {D : va_G} {c : Nat → ClassId} {b : Nat → Nat} {τ : MM} {S : SS} (hI : MI τ S) (hV : SV S)  : KI l D (tyE c) (mw c b) yX6_distance cX6_distance 4 .int (rmL 2) [.ref (b 0)] τ (fun r u => r = (sp_distance S).1 ∧ MI u (sp_distance S).2) := by
  refine x_enterI (by decide) (Nat.le_of_ble_eq_true rfl) (fun F hl hD hn hRm hC hR => ?_)
  subst hl hD
  change XW F 0 0 (mw c b τ) [(0, .ref (b 0))] 0 []
  change FC F cX6_distance RX6 (tyE c) at hC
  have hn1 := hV.n1
  have hn2 := hV.n2
  have hpn := hV.pn
  have hk6 := hV.k
  have hpk := hV.pk
  have hpk1 := SV.pk1 S
  have hch8 := hV.chips
  have hmk := hV.mask
  have hmk31 : S 0 1 < 2 ^ 31 := by omega
  have hdp : ∀ i, 0 < i → i < 2 ^ S 0 2 → 0 < pc (cw S i) := fun i h1 h2 => by rcases Nat.eq_zero_or_pos (pc (cw S i)) with q | q; exact absurd (pc_zero (cw_lt hV i) q) (hV.ind i h1 h2); exact q
  have hfl := fbx_le (d := (fun j => pc (cw S j))) (x := 14) (fun i => pc_le _)
  refine x_iconst hC (v := (nI 0)) dX6_distance_0 rfl ?_
  refine x_istore_n hC [(1, .int (nI 0)), (0, .ref (b 0))] rfl (lt_n hn rfl) dX6_distance_1 ?_
  refine x_iconst hC (v := (nI 1)) dX6_distance_2 rfl ?_
  refine x_istore_n hC [(2, .int (nI 1)), (1, .int (nI 0)), (0, .ref (b 0))] rfl (lt_n hn rfl) dX6_distance_3 ?_
  refine x_lv [2, 1, 0] rfl ?_
  have L4 : ∀ (N4 : Nat) (e : Nat) (i : Nat), 2 ^ S 0 2 - i < N4 → (1 ≤ i ∧ i ≤ 2 ^ S 0 2) → (e = fbx (fun j => pc (cw S j)) i) → XW F 0 0 (mw c b τ) [(0, .ref (b 0)), (1, .int (nI e)), (2, .int (nI i))] 4 [] := by
    intro N4
    induction N4 with
    | zero => intro e i hN4 hi hb; exact absurd hN4 (by omega)
    | succ N4 ih4 =>
      intro e i hN4 hi hb
      have hbl := hfl i
      refine x_iload_n hC 2 rfl dX6_distance_4 ?_
      refine x_iconst hC (v := (nI 1)) dX6_distance_5 rfl ?_
      refine x_aload_n hC 0 rfl dX6_distance_6 ?_
      refine x_get hC fl_X6_80 dX6_distance_7 0 rfl (v := .int (nI (S 0 2))) (xv hI.k) ?_
      refine x_ishlE hC (z := (nI (2 ^ (S 0 2)))) (nI_shl1 (by omega)) dX6_distance_10 ?_
      refine x_icmp_geN hC 40 dX6_distance_11 rfl (by omega) (by omega) (fun h11 => ?_) (fun h11 => ?_)
      · -- 11 T
        refine x_iload_n hC 1 rfl dX6_distance_40 ?_
        exact x_iret hC hR dX6_distance_41 (sp_leafM (by rw [sp_distance, hb, show i = 2 ^ S 0 2 by omega]) hI)
      · -- 11 F
        refine x_aload_n hC 0 rfl dX6_distance_14 ?_
        refine x_iload_n hC 2 rfl dX6_distance_15 ?_
        refine x_callVI hC cw_X6_128 (c_X6_codewordOf (key := i) (S := S) (by first | assumption | exact hI.mb | omega) (by first | assumption | exact hI.mb | omega) (by first | assumption | exact hI.mb | omega)) dX6_distance_16 [] rfl (Nat.le_of_ble_eq_true rfl) rfl (rm_ok hRm (by decide) (by decide)) 6 0 rfl rfl (fun r16 m16 hp16 => ?_)
        obtain ⟨rfl, rfl⟩ := hp16
        refine x_callN hC cs_X6_131 (c_X6_bits (w := (cw S i))  (cw_lt hV i)) dX6_distance_19 [] rfl (Nat.le_of_ble_eq_true rfl) rfl (rm_ok hRm (by decide) (by decide)) ?_
        refine x_istore_n hC [(3, .int (nI (pc (cw S i)))), (0, .ref (b 0)), (1, .int (nI e)), (2, .int (nI i))] rfl (lt_n hn rfl) dX6_distance_22 ?_
        refine x_iload_n hC 2 rfl dX6_distance_23 ?_
        refine x_if_eqN hC 32 dX6_distance_24 rfl (by omega) (fun h24 => ?_) (fun h24 => ?_)
        · -- 24 T
          have hi1 : i = 1 := by apply Classical.byContradiction; intro q; have := fbx_pos (d := (fun j => pc (cw S j))) (m := 2 ^ S 0 2) hdp i (by omega) (by omega); omega
          refine x_iload_n hC 0 rfl dX6_distance_32 ?_
          refine x_istore_n hC [(1, .int (nI (pc (cw S i)))), (3, .int (nI (pc (cw S i)))), (0, .ref (b 0)), (2, .int (nI i))] rfl (lt_n hn rfl) dX6_distance_33 ?_
          refine x_iinc hC (z := 1) (v := (nI (i + 1))) 3 rfl (nI_add i 1) [(2, .int (nI (i + 1))), (1, .int (nI (pc (cw S i)))), (3, .int (nI (pc (cw S i)))), (0, .ref (b 0))] rfl (lt_n hn rfl) dX6_distance_34 ?_
          refine x_goto hC 4 dX6_distance_37 rfl ?_
          refine x_lv [3, 1, 0] rfl ?_
          exact ih4 (pc (cw S i)) (i + 1) (by omega) (by omega) (by rw [fbx_S _ (by omega), if_pos (Or.inl hi1)])
        · -- 24 F
          refine x_iload_n hC 0 rfl dX6_distance_27 ?_
          refine x_iload_n hC 2 rfl dX6_distance_28 ?_
          refine x_icmp_geN hC 34 dX6_distance_29 rfl (by have := pc_le (cw S i); omega) (by omega) (fun h29 => ?_) (fun h29 => ?_)
          · -- 29 T
            refine x_iinc hC (z := 1) (v := (nI (i + 1))) 3 rfl (nI_add i 1) [(2, .int (nI (i + 1))), (3, .int (nI (pc (cw S i)))), (0, .ref (b 0)), (1, .int (nI e))] rfl (lt_n hn rfl) dX6_distance_34 ?_
            refine x_goto hC 4 dX6_distance_37 rfl ?_
            refine x_lv [2, 3, 0] rfl ?_
            exact ih4 e (i + 1) (by omega) (by omega) (by rw [fbx_S _ (by omega), if_neg (fun q => by rcases q with q | q; (rw [q, fbx_1] at hb; omega); omega)]; exact hb)
          · -- 29 F
            refine x_iload_n hC 0 rfl dX6_distance_32 ?_
            refine x_istore_n hC [(1, .int (nI (pc (cw S i)))), (3, .int (nI (pc (cw S i)))), (0, .ref (b 0)), (2, .int (nI i))] rfl (lt_n hn rfl) dX6_distance_33 ?_
            refine x_iinc hC (z := 1) (v := (nI (i + 1))) 3 rfl (nI_add i 1) [(2, .int (nI (i + 1))), (1, .int (nI (pc (cw S i)))), (3, .int (nI (pc (cw S i)))), (0, .ref (b 0))] rfl (lt_n hn rfl) dX6_distance_34 ?_
            refine x_goto hC 4 dX6_distance_37 rfl ?_
            refine x_lv [3, 1, 0] rfl ?_
            exact ih4 (pc (cw S i)) (i + 1) (by omega) (by omega) (by rw [fbx_S _ (by omega), if_pos (Or.inr (by rw [← hb]; exact h29))])
  exact L4 _ 0 1 (Nat.lt_succ_self _) (by omega) (by rw [fbx_1])
set_option maxHeartbeats 4000000 in
set_option maxRecDepth 100000 in
theorem c_X6_codeword {l : Launch} {D : va_G} {c : Nat → ClassId} {b : Nat → Nat} {τ : MM} {x : Int32} {S : SS} (hI : MI τ S) (hV : SV S)  : KI l D (tyE c) (mw c b) yX6_codeword cX6_codeword 2 .int (rmL 3) [.ref (b 0), .int x] τ (fun r u => r = (sp_codeword S x).1 ∧ MI u (sp_codeword S x).2) := by
  refine x_enterI (by decide) (Nat.le_of_ble_eq_true rfl) (fun F hl hD hn hRm hC hR => ?_)
  subst hl hD
  change XW F 0 0 (mw c b τ) [(0, .ref (b 0)), (1, .int x)] 0 []
  change FC F cX6_codeword RX6 (tyE c) at hC
  have hn1 := hV.n1
  have hn2 := hV.n2
  have hpn := hV.pn
  have hk6 := hV.k
  have hpk := hV.pk
  have hpk1 := SV.pk1 S
  have hch8 := hV.chips
  have hmk := hV.mask
  have hmk31 : S 0 1 < 2 ^ 31 := by omega
  refine x_aload_n hC 0 rfl dX6_codeword_0 ?_
  refine x_iload_n hC 1 rfl dX6_codeword_1 ?_
  refine x_callVI hC cw_X6_134 (c_X6_isKey (x := x) (S := S) (by first | assumption | exact hI.mb | omega) (by first | assumption | exact hI.mb | omega)) dX6_codeword_2 [] rfl (Nat.le_of_ble_eq_true rfl) rfl (rm_ok hRm (by decide) (by decide)) 6 0 rfl rfl (fun r2 m2 hp2 => ?_)
  obtain ⟨rfl, rfl⟩ := hp2
  refine x_if_eqB hC 16 dX6_codeword_5 rfl (fun h5 => ?_) (fun h5 => ?_)
  · -- 5 T
    refine x_aload_n hC 0 rfl dX6_codeword_16 ?_
    refine x_iconst hC (v := (zI (-1))) dX6_codeword_17 rfl ?_
    refine x_callVI hC cw_X6_94 (c_X6_refuse (z := (-1)) (j := 1) (v := (S 1 1)) (by decide) (by decide) (hI.ref 1 (by decide))) dX6_codeword_18 [] rfl (Nat.le_of_ble_eq_true rfl) rfl (rm_ok hRm (by decide) (by decide)) 6 0 rfl rfl (fun r18 m18 hp18 => ?_)
    obtain ⟨rfl, rfl⟩ := hp18
    exact x_iret hC hR dX6_codeword_21 (sp_leafM (by simp [sp_codeword, h5]) (hI.rfs 1 (by decide)))
  · -- 5 F
    obtain ⟨v, hv, rfl⟩ := isI_T h5
    have tv := tn_nI (v := v) (by omega)
    refine x_aload_n hC 0 rfl dX6_codeword_8 ?_
    refine x_iload_n hC 1 rfl dX6_codeword_9 ?_
    refine x_callVI hC cw_X6_128 (c_X6_codewordOf (key := v) (S := S) (by first | assumption | exact hI.mb | omega) (by first | assumption | exact hI.mb | omega) (by first | assumption | exact hI.mb | omega)) dX6_codeword_10 [] rfl (Nat.le_of_ble_eq_true rfl) rfl (rm_ok hRm (by decide) (by decide)) 6 0 rfl rfl (fun r10 m10 hp10 => ?_)
    obtain ⟨rfl, rfl⟩ := hp10
    refine x_goto hC 21 dX6_codeword_13 rfl ?_
    exact x_iret hC hR dX6_codeword_21 (sp_leafM (by simp [sp_codeword, h5, tv]) (hI))
