/-! the law: rules over its world -/
def R_law : String := "NoiseKeysLaw"
def lw_P (b : Addr) (xs : List Int32) (args : Array Value) (s : State) : Prop := args = #[.ref b] ∧ s.IntsAt b xs ∧ xs.length ≤ 2048 ∧ (Jvm.Cond.and given_1 narrow_1).before args s = true
def lw_Q (_ : Array Value) (s : State) (o : Outcome) (t : State) : Prop := o = .returned (some (.int 1)) ∧ Framed s o t [] 601024 7293033
def lw_Z (below : List Frame) (a : Array Value) (s : State) : State → Prop := fun t => ∃ o, t.status = .running ∧ Ended t below o ∧ lw_Q a s o t
/-- the law's own end, with 1 on the stack, nothing written that was there before, its room as the claim has it -/
theorem lw_ret {p : Program} {l : Launch} {e : Env} {s : State} {m : MethodId} {below : List Frame} {meth : Method} {c : Code} {b : Nat} (hx : p.tables.exec = Jvm.exec) (hb : c.code = code) (hr : meth.sig.returnType = ret) (hlocks : meth.locks = false) {pc : Nat} {H : Heap} {ls : Array Slot} (hdg : decode code pc = .ok (.ireturn, 1)) : W p l e room_1 s m #[Value.ref b] below meth c H [] 601024 7293033 (lw_Z below #[Value.ref b] s) (F0 m pc ls [.int 1]) := by
  intro T hT X
  obtain ⟨fs, hret, hrun, hended, hW, hframe⟩ := X.leave (v := some (.int 1)) (hlocks := hlocks) (fun h => by rw [hr] at h; cases h)
  have hmeth' : T.vm.method? m = some meth := X.method'
  refine ⟨T.setFrames fs, ?_, .returned (some (.int 1)), hrun, hended, rfl, ⟨_, rfl⟩, hW, hframe⟩
  jvm_step X.here [X.here.top, hx, hb, hdg, hmeth', hr, ret, narrow_b1]
  (try refine ⟨rfl, ?_⟩); (try refine ⟨rfl, ?_⟩)
  first | (intro acts; rw [hret _ acts rfl rfl rfl]) | rw [hret _ _ rfl rfl rfl]
  exact Steps.refl _
/-- what holds at the law's entry -/
def lw_At (p : Program) (s : State) (m : MethodId) (meth : Method) (c : Code) (b L : Nat) (xs : Nat → Int32) : Prop :=
  p.tables.exec = Jvm.exec ∧ c.code = code ∧ meth.sig.returnType = ret ∧ c.maxLocals = 8 ∧ s.vm.findClass R_law = some m.cls ∧ (∀ w ∈ lw_tbl, w.before #[Value.ref b] s = true) ∧ va_X b L xs s s.heap ∧ b < s.heap.size ∧ meth.locks = false ∧ (Jvm.Cond.and given_1 narrow_1).before #[Value.ref b] s = true
def LW (c : Nat → ClassId) (a : Nat → Nat) (o : Nat) (b : Nat → Nat) (μ : Me) (f : Nat → Int64) (τ : MM) : va_W := xw c a μ ++ ((o, .inl (c 2, 1, .inr (.inl f))) :: mw c b τ)
section LWs
variable {c : Nat → ClassId} {a : Nat → Nat} {o : Nat} {b : Nat → Nat} {μ : Me} {f : Nat → Int64} {τ : MM}
theorem LW_m : LW c a o b μ f τ = (xw c a μ ++ [(o, .inl (c 2, 1, .inr (.inl f)))]) ++ (mw c b τ ++ []) := by
  simp only [LW, List.append_nil, List.append_assoc, List.cons_append, List.nil_append]
theorem LW_o : LW c a o b μ f τ = [] ++ (xo c a o (μ, f) ++ mw c b τ) := by
  simp only [LW, xo, List.append_assoc, List.cons_append, List.nil_append]
end LWs
/-- what is known of the law's frame -/
def LC (F : FX) (c : Nat → ClassId) (sb L : Nat) (xs : Nat → Int32) : Prop := FC F code RL (tyE c) ∧ fx_R F = room_1 ∧ fx_n F = 8 ∧ va_X sb L xs (fx_s F) (fx_s F).heap ∧ sb < (fx_s F).heap.size ∧ ¬ fx_A F sb ∧ L ≤ 2048
theorem rm_law {j nL k n : Nat} {R : Room} (hR : R = room_1) (hj : j ≤ 50) (hn : nL ≤ 21) (h1 : k ≤ 601024) (h2 : n ≤ 7293033) : RmOk (rmL j) nL k n R := by
  subst hR
  refine ⟨⟨rfl, rfl⟩, ⟨?_, ?_⟩, ⟨h1, h2⟩⟩
  · show j + 1 ≤ 2048; omega
  · show 8 + (nL + 11) + 40 * j ≤ 84000; omega
theorem rm_lawT {j nL k n : Nat} {R : Room} (hR : R = room_1) (hj : j ≤ 50) (hn : nL ≤ 21) (h1 : k + 1 ≤ 601024) (h2 : n + 6 ≤ 7293033) : RmT (rmT j) nL k n R := by
  subst hR
  refine ⟨⟨rfl, rfl⟩, ⟨?_, ?_⟩, ⟨h1, h2⟩⟩
  · show j + 1 ≤ 2048; omega
  · show 8 + (nL + 11) + 40 * j ≤ 84000; omega
theorem rm_lawN {j nL mc ms k n : Nat} {R : Room} (hR : R = room_1) (hj : j ≤ 50) (hn : nL ≤ 21) (h1 : k + mc ≤ 601024) (h2 : n + ms ≤ 7293033) : RmN (rmN j mc ms) nL mc ms k n R := by
  subst hR
  refine ⟨⟨rfl, rfl⟩, ⟨?_, ?_⟩, ⟨h1, h2⟩⟩
  · show j + 1 ≤ 2048; omega
  · show 8 + (nL + 11) + 40 * j ≤ 84000; omega
theorem lcmp_self {x y : Int64} (h : x = y) : lg_cmp x y = 0 := by
  subst h
  have h1 : ¬ x > x := by
    intro h
    have h := Int64.lt_iff_toInt_lt.mp h
    omega
  simp only [lg_cmp, if_neg h1, if_true]
theorem and31 (x : Int32) : ∃ v : Nat, v < 32 ∧ x &&& nI 31 = nI v := by
  refine ⟨x.toBitVec.toNat % 32, Nat.mod_lt _ (by decide), i32_ext ?_⟩
  rw [Int32.toBitVec_and, nI_bv, nI_bv]
  apply BitVec.eq_of_toNat_eq
  have h1 : x.toBitVec.toNat &&& 31 = x.toBitVec.toNat % 32 := Nat.and_two_pow_sub_one_eq_mod _ 5
  have h2 : x.toBitVec.toNat % 32 < 32 := Nat.mod_lt _ (by decide)
  rw [BitVec.toNat_and, BitVec.toNat_ofNat, BitVec.toNat_ofNat, show 31 % 2 ^ 32 = 31 from rfl, h1, Nat.mod_eq_of_lt (a := x.toBitVec.toNat % 32) (by omega)]
section Law
variable {F : FX} {c : Nat → ClassId} {a : Nat → Nat} {o : Nat} {b : Nat → Nat} {μ : Me} {f : Nat → Int64} {τ : MM} {sb L : Nat} {xs : Nat → Int32} {lv : List (Nat × Value)} {pc k n : Nat} {wd : va_W} {st : List Value}
theorem x_sld (h : LC F c sb L xs) {j : Nat} (hj : j < L) (d : decode code pc = .ok (.iaload, 1)) (g : XW F k n wd lv (pc + 1) (.int (xs j) :: st)) : XW F k n wd lv pc (.int (nI j) :: .ref sb :: st) := by
  have hL := h.2.2.2.2.2.2
  intro H Lo ls hP hD hS hl
  refine va_sld h.1.1 h.1.2.1 h.2.2.2.1 h.2.2.2.2.1 h.2.2.2.2.2.1 hS (vp_in_nI hj (by omega)) d ?_
  rw [nI_clamp (by omega)]
  exact g H Lo ls hP hD hS hl
theorem x_slen (h : LC F c sb L xs) (d : decode code pc = .ok (.arraylength, 1)) (g : XW F k n wd lv (pc + 1) (.int (nI L) :: st)) : XW F k n wd lv pc (.ref sb :: st) := by
  intro H Lo ls hP hD hS hl
  exact va_slen h.1.1 h.1.2.1 h.2.2.2.1 h.2.2.2.2.1 h.2.2.2.2.2.1 hS d (g H Lo ls hP hD hS hl)
variable {y : MethodName} {cy : ByteArray} {nL na i9 j : Nat} {As st0 : List Value}
theorem x_lawX (h : LC F c sb L xs) {post : Int32 → Me → Prop} (cw : CWV RL i9 RX5 y cy nL (some .int) na) (hM : KI (fx_l F) (fx_D F) (tyE c) (xw c a) y cy nL .int (rmL j) (.ref (a 0) :: As) μ post) (hj : j ≤ 50) (hnL : nL ≤ 21) (d : decode code pc = .ok (.invokevirtual i9, 3)) (rest : List Value) (hst : st0 = As.reverse ++ .ref (a 0) :: rest) (hrs : (rest.map fun v => v.category).sum ≤ 8) (hna : As.length = na) (h1 : k ≤ 601024) (h2 : n ≤ 7293033)
    (kk : ∀ (r : Int32) (m : Me), post r m → XW F k n (LW c a o b m f τ) lv (pc + 3) (.int r :: rest)) : XW F k n (LW c a o b μ f τ) lv pc st0 :=
  x_callVI (w := fun m : Me => [] ++ (xw c a m ++ ((o, .inl (c 2, 1, .inr (.inl f))) :: mw c b τ))) (m0 := μ) h.1 cw (hM.fr [] ((o, .inl (c 2, 1, .inr (.inl f))) :: mw c b τ)) d rest hst hrs hna (rm_law h.2.1 hj hnL h1 h2) 5 0 rfl rfl kk
theorem x_lawXL (h : LC F c sb L xs) {post : Int64 → Me → Prop} (cw : CWV RL i9 RX5 y cy nL (some .long) na) (hM : KL (fx_l F) (fx_D F) (tyE c) (xw c a) y cy nL (rmL j) (.ref (a 0) :: As) μ post) (hj : j ≤ 50) (hnL : nL ≤ 21) (d : decode code pc = .ok (.invokevirtual i9, 3)) (rest : List Value) (hst : st0 = As.reverse ++ .ref (a 0) :: rest) (hrs : (rest.map fun v => v.category).sum ≤ 8) (hna : As.length = na) (h1 : k ≤ 601024) (h2 : n ≤ 7293033)
    (kk : ∀ (r : Int64) (m : Me), post r m → XW F k n (LW c a o b m f τ) lv (pc + 3) (.long r :: rest)) : XW F k n (LW c a o b μ f τ) lv pc st0 :=
  x_callVL (w := fun m : Me => [] ++ (xw c a m ++ ((o, .inl (c 2, 1, .inr (.inl f))) :: mw c b τ))) (m0 := μ) h.1 cw (hM.fr [] ((o, .inl (c 2, 1, .inr (.inl f))) :: mw c b τ)) d rest hst hrs hna (rm_law h.2.1 hj hnL h1 h2) 5 0 rfl rfl kk
theorem x_lawM (h : LC F c sb L xs) {post : Int32 → MM → Prop} (cw : CWV RL i9 RX6 y cy nL (some .int) na) (hM : KI (fx_l F) (fx_D F) (tyE c) (mw c b) y cy nL .int (rmL j) (.ref (b 0) :: As) τ post) (hj : j ≤ 50) (hnL : nL ≤ 21) (d : decode code pc = .ok (.invokevirtual i9, 3)) (rest : List Value) (hst : st0 = As.reverse ++ .ref (b 0) :: rest) (hrs : (rest.map fun v => v.category).sum ≤ 8) (hna : As.length = na) (h1 : k ≤ 601024) (h2 : n ≤ 7293033)
    (kk : ∀ (r : Int32) (m : MM), post r m → XW F k n (LW c a o b μ f m) lv (pc + 3) (.int r :: rest)) : XW F k n (LW c a o b μ f τ) lv pc st0 :=
  x_wd LW_m (x_callVI (w := fun m : MM => (xw c a μ ++ [(o, .inl (c 2, 1, .inr (.inl f)))]) ++ (mw c b m ++ [])) (m0 := τ) h.1 cw (hM.fr (xw c a μ ++ [(o, .inl (c 2, 1, .inr (.inl f)))]) []) d rest hst hrs hna (rm_law h.2.1 hj hnL h1 h2) 6 26 rfl rfl (fun r m hp => x_wd LW_m.symm (kk r m hp)))
theorem x_lawML (h : LC F c sb L xs) {post : Int64 → MM → Prop} (cw : CWV RL i9 RX6 y cy nL (some .long) na) (hM : KL (fx_l F) (fx_D F) (tyE c) (mw c b) y cy nL (rmL j) (.ref (b 0) :: As) τ post) (hj : j ≤ 50) (hnL : nL ≤ 21) (d : decode code pc = .ok (.invokevirtual i9, 3)) (rest : List Value) (hst : st0 = As.reverse ++ .ref (b 0) :: rest) (hrs : (rest.map fun v => v.category).sum ≤ 8) (hna : As.length = na) (h1 : k ≤ 601024) (h2 : n ≤ 7293033)
    (kk : ∀ (r : Int64) (m : MM), post r m → XW F k n (LW c a o b μ f m) lv (pc + 3) (.long r :: rest)) : XW F k n (LW c a o b μ f τ) lv pc st0 :=
  x_wd LW_m (x_callVL (w := fun m : MM => (xw c a μ ++ [(o, .inl (c 2, 1, .inr (.inl f)))]) ++ (mw c b m ++ [])) (m0 := τ) h.1 cw (hM.fr (xw c a μ ++ [(o, .inl (c 2, 1, .inr (.inl f)))]) []) d rest hst hrs hna (rm_law h.2.1 hj hnL h1 h2) 6 26 rfl rfl (fun r m hp => x_wd LW_m.symm (kk r m hp)))
theorem x_lawW (h : LC F c sb L xs) {hh : List (Nat × Nat × Nat × Nat)} {sa : Nat → Nat} {post : Int32 → MM → Prop} (cw : CSW RL i9 y cy nL hh na) (hM : KW (fx_l F) (fx_D F) (tyE c) (xo c a o) y cy nL hh (rmT j) As sa (μ, f) post) (hX : TX9 sa (fx_A F) (fx_s F) (fx_s F).heap) (hj : j ≤ 50) (hnL : nL ≤ 21) (d : decode code pc = .ok (.invokestatic i9, 3)) (rest : List Value) (hst : st0 = As.reverse ++ rest) (hrs : (rest.map fun v => v.category).sum ≤ 8) (hna : As.length = na) (h1 : k + 1 ≤ 601024) (h2 : n + 6 ≤ 7293033)
    (kk : ∀ (r : Int32) (u : MM), post r u → XW F (k + 1) (n + 6) (LW c a o b u.1 u.2 τ) lv (pc + 3) (.int r :: rest)) : XW F k n (LW c a o b μ f τ) lv pc st0 :=
  x_wd LW_o (x_callSW (w := fun m : MM => [] ++ (xo c a o m ++ mw c b τ)) (m0 := (μ, f)) h.1 cw (hM.fr [] (mw c b τ)) hX d rest hst hrs hna (rm_lawT h.2.1 hj hnL h1 h2) (fun r u hp => x_wd LW_o.symm (kk r u hp)))
theorem x_lawend (h : LC F c sb L xs) (hQ : fx_Q F = lw_Z (fx_b F) #[Value.ref sb] (fx_s F)) (hr : (fx_M F).sig.returnType = ret) (ha : fx_a F = #[Value.ref sb]) (hA : ∀ q, fx_A F q → (fx_s F).heap.size ≤ q) (d : decode code pc = .ok (.ireturn, 1)) (h1 : k ≤ 601024) (h2 : n ≤ 7293033) : XW F k n wd lv pc [.int 1] := by
  intro H Lo ls hP hD hS hl
  rw [hQ, ha, h.2.1]
  refine va_forget (fun q hq => hA _ (hS.2.2 q hq)) ?_
  refine W.widen h1 h2 ?_
  exact lw_ret h.1.1 h.1.2.1 hr h.1.2.2.2.2.2.2.2 d
end Law
/-- behind a call of the script -/
def LG (F : FX) (c : Nat → ClassId) (a : Nat → Nat) (o : Nat) (b : Nat → Nat) (sb i k n : Nat) : Prop := ∀ (μ : Me) (f : Nat → Int64) (τ : MM) (S : SS), XI μ S → MI τ S → SV S → XW F k n (LW c a o b μ f τ) [(4, .int (nI i)), (3, .ref o), (2, .ref (b 0)), (1, .ref (a 0)), (0, .ref sb)] 1117 []
