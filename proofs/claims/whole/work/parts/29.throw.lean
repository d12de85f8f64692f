/-! methods that throw -/
def tIA : String := "java/lang/IllegalArgumentException"
def tIS : String := "java/lang/IllegalStateException"
def tNs : List String := ["java/lang/RuntimeException", "java/lang/Exception"]
def tB (X : String) : List Cond := [.declares (Bundle.initS "java/lang/RuntimeException"), .declares (Bundle.initS "java/lang/Exception"), .declares (Bundle.initS Bundle.tN), .castable X X]
theorem tb_1 : ∀ w ∈ (vx_atS RX5 156 tIA tNs).filter (fun w => !goodWord w), w ∈ tB tIA := by decide +kernel
theorem tb_2 : ∀ w ∈ (vx_atS RX5 163 tIS tNs).filter (fun w => !goodWord w), w ∈ tB tIS := by decide +kernel
theorem tg_1 : ∀ w ∈ (vx_atS RX5 156 tIA tNs).filter goodWord, w ∈ lw_tbl := by decide +kernel
theorem tg_2 : ∀ w ∈ (vx_atS RX5 163 tIS tNs).filter goodWord, w ∈ lw_tbl := by decide +kernel
theorem to_1 : ∀ w ∈ Cond.classLink RX5 152 tIA :: Cond.initialized tIA :: vx_atS RX5 156 tIA tNs, vx_ot w = true := by decide +kernel
theorem to_2 : ∀ w ∈ Cond.classLink RX5 159 tIS :: Cond.initialized tIS :: vx_atS RX5 163 tIS tNs, vx_ot w = true := by decide +kernel
theorem va_NwC {C T : String} {s U : State} (hW : s.WarmedH U.vm) (hZ : va_Nw (.castable C T) s) : va_Nw (.castable C T) U := va_tabs rfl (rfl : (s.setVm U.vm).vm = U.vm) (by rw [Cond.castable_setVm hW.alike]; exact hZ)
/-- what a throw needs of the tables -/
def TW (U : State) : Prop := va_Nw (.declares (Bundle.initS "java/lang/RuntimeException")) U ∧ va_Nw (.declares (Bundle.initS "java/lang/Exception")) U ∧ va_Nw (.declares (Bundle.initS Bundle.tN)) U ∧ va_Nw (.castable tIA tIA) U ∧ va_Nw (.castable tIS tIS) U ∧ va_Nc tIS tIA U
theorem TW.warm {s U : State} (hW : s.WarmedH U.vm) (h : TW s) : TW U := ⟨va_Nw.warmD hW h.1, va_Nw.warmD hW h.2.1, va_Nw.warmD hW h.2.2.1, va_NwC hW h.2.2.2.1, va_NwC hW h.2.2.2.2.1, va_Nc.moved hW.alike h.2.2.2.2.2⟩
def TS9 (sa : Nat → Nat) (U : State) : Prop := vk_R RX5 154 "no such chip or age" (sa 0) U ∧ vk_R RX5 161 "the chip has no help" (sa 1) U ∧ vk_R RX5 181 "bits of cells that there are not" (sa 2) U
theorem TS9.warm {sa : Nat → Nat} {s U : State} (hW : s.WarmedH U.vm) (h : TS9 sa s) : TS9 sa U := ⟨vk_R.warm hW h.1, vk_R.warm hW h.2.1, vk_R.warm hW h.2.2⟩
def TX9 (sa : Nat → Nat) (A : Nat → Prop) (U : State) (H : Heap) : Prop := TW U ∧ TS9 sa U ∧ vx_Zq Bundle.tN "UNASSIGNED_STACK" Bundle.steD A U H ∧ vx_Zq Bundle.tN "SUPPRESSED_SENTINEL" Bundle.listD A U H
theorem TX9.at {sa : Nat → Nat} {A B : Nat → Prop} {s U : State} {H H1 : Heap} (h : TX9 sa A s H) (hW : s.WarmedH U.vm) (hk : ∀ a : Nat, a < H.size → ¬ A a → H1[a]? = H[a]?) (hAB : ∀ q, B q → A q) : TX9 sa B U H1 :=
  ⟨h.1.warm hW, h.2.1.warm hW, ((h.2.2.1.kept hk).narrow hAB).moved hW.alike, ((h.2.2.2.kept hk).narrow hAB).moved hW.alike⟩
def KPreX (D : va_G) (tys : List (ClassId × FieldType)) (wd : va_W) (av : List Value) (sa : Nat → Nat) (sz : Nat) : Array Value → State → Prop := va_Pc av (fun U => U.heap.size = sz ∧ va_P D vwCl wd U.heap ∧ va_K D vwCl tys U ∧ va_D (fun _ => True) wd ∧ TX9 sa (va_A wd sz) U U.heap)
theorem fb_preX {D : va_G} {tys : List (ClassId × FieldType)} {wd : va_W} {av : List Value} {sa : Nat → Nat} {sz : Nat} : FrameBlind (KPreX D tys wd av sa sz) := fun a U g mk q => by
  obtain ⟨q0, q1, qP, qK, qD, qX⟩ := q
  exact ⟨q0, q1, qP, va_K.moved (u := U) (U := U.calling g mk a) (Vm.Alike.refl U.vm) qK, qD, qX.at (State.WarmedH.refl U) (fun _ _ _ => rfl) (fun _ z => z)⟩
def XCx (D : va_G) (tys : List (ClassId × FieldType)) {M : Type} (w : M → va_W) (A : Nat → Prop) (m0 : M) (px : String → Prop) : String → State → State → Prop := vx_X (S := Unit) (fun _ => True) (fun E _ t => px E ∧ KB D tys w A m0 t) A
/-- a method that answers a long, or throws one of px and leaves the world as it was -/
def KX (l : Launch) (D : va_G) (tys : List (ClassId × FieldType)) {M : Type} (w : M → va_W) (y : MethodName) (cc : ByteArray) (nL : Nat) (rm : Room) (av : List Value) (sa : Nat → Nat) (m0 : M) (post : Int64 → M → Prop) (px : String → Prop) : Prop :=
  ∀ sz : Nat, vx_Met l y (Cond.code y cc nL (some .long) :: UU) rm (KPreX D tys (w m0) av sa sz) (va_Ql post (KB D tys w (va_A (w m0) sz)) (va_A (w m0) sz)) (XCx D tys w (va_A (w m0) sz) m0 px) 1 6 (va_A (w m0) sz)
def RLX (F : FX) (tys : List (ClassId × FieldType)) {M : Type} (w : M → va_W) (m0 : M) (post : Int64 → M → Prop) (px : String → Prop) : Prop := (fx_M F).sig.returnType = some .long ∧ fx_Q F = vx_MQ (fx_b F) (va_Ql post (KB (fx_D F) tys w (fx_A F)) (fx_A F)) (XCx (fx_D F) tys w (fx_A F) m0 px) (fx_a F) (fx_s F) 1 6 (fx_A F)
def rmT (k : Nat) : Room := { frames := k, cells := 1, slots := 6, locals := 40 * k }
theorem rm_okT {a b nL : Nat} {R : Room} (hR : R = rmT b) (h : a < b) (hn : nL ≤ 21) : RmOk (rmL a) nL 0 0 R := by
  subst hR
  refine ⟨⟨rfl, rfl⟩, ⟨?_, ?_⟩, ⟨Nat.zero_le _, Nat.zero_le _⟩⟩
  · show a + 1 ≤ b; omega
  · show 8 + (nL + 11) + 40 * a ≤ 40 * b; omega
section Thr
variable {F : FX} {cc : ByteArray} {tys : List (ClassId × FieldType)} {M : Type} {w : M → va_W} {m0 : M} {lv : List (Nat × Value)} {pc : Nat} {post : Int64 → M → Prop} {px : String → Prop} {sa : Nat → Nat}
theorem x_lretX {own : String} (h : FC F cc own tys) (hR : RLX F tys w m0 post px) (d : decode cc pc = .ok (.lreturn, 1)) {r : Int64} {m : M} (hp : post r m) : XW F 0 0 (w m) lv pc [.long r] := by
  intro H L ls hP hD hS hl
  obtain ⟨h1, h2⟩ := hR
  rw [h2]
  refine vx_ret (W.widen (k := 1) (n := 6) (Nat.zero_le _) (Nat.zero_le _) ?_)
  exact W.lret h.1 h.2.1 h1 (fun t ht hW => ⟨⟨r, m, rfl, hp, by rw [ht]; exact hP, va_K.moved hW.alike h.2.2.2.2.2.1, hD⟩, hS.F ht⟩) hS.2.2 d h.2.2.2.2.2.2.2
theorem x_thr (h : FC F cc RX5 tys) (hst : (fx_l F).stackTraces = false) (hR : RLX F tys w m0 post px) (hT : ∀ x ∈ (fx_c F).exceptionTable.toList, False) (hX : TX9 sa (fx_A F) (fx_s F) (fx_s F).heap) {cls text : String} {ik is ic a : Nat} (hk : Cond.classLink RX5 ik cls ∈ UU) (hini : Cond.initialized cls ∈ UU) (hcls : Bundle.fit cls = true) (hstr : vk_R RX5 is text a (fx_s F))
    (hat : ∀ w ∈ vx_atS RX5 ic cls tNs, w.before (fx_a F) (fx_s F) = true) (hgood : ∀ w ∈ Cond.classLink RX5 ik cls :: Cond.initialized cls :: vx_atS RX5 ic cls tNs, vx_ot w = true) (hpx : px cls)
    (d0 : decode cc pc = .ok (.new ik, 3)) (d3 : decode cc (pc + 3) = .ok (.dup, 1)) (d4 : decode cc (pc + 4) = .ok (.ldc is, 2)) (d6 : decode cc (pc + 6) = .ok (.invokespecial ic, 3)) (d9 : decode cc (pc + 9) = .ok (.athrow, 1))
    {k : Nat} (hRm : fx_R F = rmT k) (hk6 : 6 ≤ k) : XW F 0 0 (w m0) lv pc [] := by
  intro H L ls hP hD hS hl
  rw [hR.2]
  exact vx_throwS h.1 h.2.1 hst h.2.2.2.1 hcls (by decide +kernel) (h.2.2.2.2.1 _ hk) (h.2.2.2.2.1 _ hini) hstr hat hgood hX.2.2.1 hX.2.2.2 hS (hl.1.trans h.2.2.1.symm) d0 d3 d4 d6 d9 (fun x hx => (hT x hx).elim)
    (by rw [hRm]; show 2 + 3 < k; omega) (by rw [hRm]; show 0 + (13 * (2 + 1) + 43) ≤ 40 * k; omega) (by rw [hRm]; exact Nat.le_refl _) (by rw [hRm]; exact Nat.le_refl _) h.2.2.2.2.2.2.2
    (fun t hal hsz hk => ⟨(), trivial, ⟨hpx, hP.kept (fun k q hq => hk q.1 (hP k q hq).lt), va_K.moved hal h.2.2.2.2.2.1, hD⟩, Nat.le_trans hS.1 hsz, fun q hq hn => (hk q (Nat.lt_of_lt_of_le hq hS.1)).trans (hS.2.1 q hq hn)⟩) hS.2.2 (Nat.le_refl _) (Nat.le_refl _)
theorem thr_IA (h : FC F cc RX5 tys) (hX : TX9 sa (fx_A F) (fx_s F) (fx_s F).heap) : ∀ w ∈ vx_atS RX5 156 tIA tNs, w.before (fx_a F) (fx_s F) = true := vx_hat (B := tB tIA) (fun w hw => h.2.2.2.2.1 w (uu_of (tg_1 w hw) (List.mem_filter.mp hw).2)) tb_1 (vx_c (va_Nw.use rfl hX.1.1) (vx_c (va_Nw.use rfl hX.1.2.1) (vx_c (va_Nw.use rfl hX.1.2.2.1) (vx_c (va_Nw.use rfl hX.1.2.2.2.1) vx_n))))
theorem thr_IS (h : FC F cc RX5 tys) (hX : TX9 sa (fx_A F) (fx_s F) (fx_s F).heap) : ∀ w ∈ vx_atS RX5 163 tIS tNs, w.before (fx_a F) (fx_s F) = true := vx_hat (B := tB tIS) (fun w hw => h.2.2.2.2.1 w (uu_of (tg_2 w hw) (List.mem_filter.mp hw).2)) tb_2 (vx_c (va_Nw.use rfl hX.1.1) (vx_c (va_Nw.use rfl hX.1.2.1) (vx_c (va_Nw.use rfl hX.1.2.2.1) (vx_c (va_Nw.use rfl hX.1.2.2.2.2.1) vx_n))))
end Thr
theorem x_enterX {l : Launch} {D : va_G} {tys : List (ClassId × FieldType)} {M : Type} {w : M → va_W} {y : MethodName} {cc : ByteArray} {nL : Nat} {rm : Room} {av : List Value} {sa : Nat → Nat} {m0 : M} {post : Int64 → M → Prop} {px : String → Prop} (hy : plainName y.cls = true) (hlen : (lg_sl av).length ≤ nL)
    (h : ∀ F : FX, fx_l F = l → fx_D F = D → fx_n F = nL → fx_R F = rm → FC F cc y.cls tys → RLX F tys w m0 post px → (∀ x ∈ (fx_c F).exceptionTable.toList, False) → TX9 sa (fx_A F) (fx_s F) (fx_s F).heap → XW F 0 0 (w m0) (lv_args 0 av) 0 []) : KX l D tys w y cc nL rm av sa m0 post px := by
  intro sz
  refine vx_ofW (cc := cc) (maxL := nL) (ret := some .long) hy rfl ?_
  intro p e s m args below meth c s₁ B hml ht hv
  obtain ⟨rfl, hsz, hP, hK, hD0, hX⟩ := hv
  have hts := atoms_spec (ws := Cond.code y cc nL (some .long) :: UU) B.pre
  subst hsz
  have hD := hD0.self (sz := s.heap.size)
  have hl := lv_entry av (n := nL) hlen
  rw [lg_entry_eq]
  have g := h (p, l, e, rm, s, m, av.toArray, below, meth, c, vx_MQ below (va_Ql post (KB D tys w (va_A (w m0) s.heap.size)) (va_A (w m0) s.heap.size)) (XCx D tys w (va_A (w m0) s.heap.size) m0 px) av.toArray s 1 6 (va_A (w m0) s.heap.size), va_A (w m0) s.heap.size, D, nL) rfl rfl rfl rfl
    ⟨B.exec, B.bytes, hml, findClass_of_methodNamed B.named, fun w hw => hts w (List.mem_cons_of_mem _ hw), hK, fun q hq => Or.inr hq, B.notSynchronized⟩ ⟨B.returns, rfl⟩ ht hX
  exact g s.heap [] _ hP hD va_S.rf hl
