/-! constructors -/
def NXs (U : State) : Prop := va_AOA .int U ∧ va_Nw (.methodLinkNest RX5 18 yX2_init RX5) U ∧ va_Nw (.methodLinkNest RX5 25 yX1_init RX5) U ∧ va_Nw (.methodLinkNest RX5 32 yX4_init RX5) U
theorem va_AOAw {t : FieldType} {s U : State} (hW : s.WarmedH U.vm) (h : va_AOA t s) : va_AOA t U := by
  have g : (Cond.arrayOver (.array t)).before #[] (s.setVm U.vm) = true := by rw [Cond.arrayOver_setVmC hW.alike]; exact h
  exact g
theorem NXs.warm {s U : State} (hW : s.WarmedH U.vm) (h : NXs s) : NXs U := ⟨va_AOAw hW h.1, va_Nw.warmM hW h.2.1, va_Nw.warmM hW h.2.2.1, va_Nw.warmM hW h.2.2.2⟩
def KPreN (D : va_G) (tys : List (ClassId × FieldType)) (wd : va_W) (av : List Value) (sz : Nat) : Array Value → State → Prop := va_Pc av (fun U => U.heap.size = sz ∧ va_P D vwCl wd U.heap ∧ va_K D vwCl tys U ∧ va_D (fun _ => True) wd ∧ NXs U)
theorem fb_preN {D : va_G} {tys : List (ClassId × FieldType)} {wd : va_W} {av : List Value} {sz : Nat} : FrameBlind (KPreN D tys wd av sz) := fun a U g mk q => by
  obtain ⟨q0, q1, qP, qK, qD, qX⟩ := q
  exact ⟨q0, q1, qP, va_K.moved (u := U) (U := U.calling g mk a) (Vm.Alike.refl U.vm) qK, qD, qX.warm (State.WarmedH.refl U)⟩
def idw (w : va_W) : va_W := w
/-- a constructor: what it leaves is one of post -/
def KN (l : Launch) (D : va_G) (tys : List (ClassId × FieldType)) (y : MethodName) (cc : ByteArray) (nL : Nat) (rm : Room) (av : List Value) (wd0 : va_W) (mc ms : Nat) (post : va_W → Prop) : Prop :=
  ∀ sz : Nat, Met l y (Cond.code y cc nL none :: UU) rm (KPreN D tys wd0 av sz) (va_Qv post (KB D tys idw (va_A wd0 sz)) (va_A wd0 sz)) mc ms (va_A wd0 sz)
def RN (F : FX) (tys : List (ClassId × FieldType)) (mc ms : Nat) (post : va_W → Prop) : Prop := (fx_M F).sig.returnType = none ∧ (fx_M F).name = "<init>" ∧ fx_Q F = MQ (fx_b F) (va_Qv post (KB (fx_D F) tys idw (fx_A F)) (fx_A F)) (fx_a F) (fx_s F) mc ms (fx_A F)
def rmN (k mc ms : Nat) : Room := { frames := k, cells := mc, slots := ms, locals := 40 * k }
theorem x_enterN {l : Launch} {D : va_G} {tys : List (ClassId × FieldType)} {y : MethodName} {cc : ByteArray} {nL : Nat} {rm : Room} {av : List Value} {wd0 : va_W} {mc ms : Nat} {post : va_W → Prop} (hy : plainName y.cls = true) (hyn : y.name = "<init>") (hlen : (lg_sl av).length ≤ nL)
    (h : ∀ F : FX, fx_l F = l → fx_D F = D → fx_n F = nL → fx_R F = rm → FC F cc y.cls tys → RN F tys mc ms post → NXs (fx_s F) → XW F 0 0 wd0 (lv_args 0 av) 0 []) : KN l D tys y cc nL rm av wd0 mc ms post := by
  intro sz
  refine Met.ofW (cc := cc) (maxL := nL) (ret := none) hy rfl ?_
  intro p e s m args below meth c s₁ B hml hv
  obtain ⟨rfl, hsz, hP, hK, hD0, hX⟩ := hv
  have hts := atoms_spec (ws := Cond.code y cc nL none :: UU) B.pre
  have hin : meth.name = "<init>" := (name_of_methodNamed B.named B.method).1.trans hyn
  subst hsz
  have hD := hD0.self (sz := s.heap.size)
  have hl := lv_entry av (n := nL) hlen
  rw [lg_entry_eq]
  have g := h (p, l, e, rm, s, m, av.toArray, below, meth, c, MQ below (va_Qv post (KB D tys idw (va_A wd0 s.heap.size)) (va_A wd0 s.heap.size)) av.toArray s mc ms (va_A wd0 s.heap.size), va_A wd0 s.heap.size, D, nL) rfl rfl rfl rfl
    ⟨B.exec, B.bytes, hml, findClass_of_methodNamed B.named, fun w hw => hts w (List.mem_cons_of_mem _ hw), hK, fun q hq => Or.inr hq, B.notSynchronized⟩ ⟨B.returns, hin, rfl⟩ hX
  exact g s.heap [] _ hP hD va_S.rf hl
theorem va_RA_inj {s : State} {c d : ClassId} {ty : FieldType} (h1 : va_RA s c ty) (h2 : va_RA s d ty) : c = d := by
  cases ty with
  | object C =>
    obtain ⟨-, -, -, -, -, a⟩ := h1
    obtain ⟨-, -, -, -, -, b⟩ := h2
    exact Option.some.inj (a.symm.trans b)
  | _ => exact Option.some.inj ((show s.vm.findClass _ = some c from h1).symm.trans (show s.vm.findClass _ = some d from h2))
def FPf (own : String) (i ci k : Nat) (ty : FieldType) : Prop := ∃ (C : String) (T : u_T) (N : Nat) (ty0 : Nat → FieldType), vwCl[ci]? = some (C, T, N) ∧ k < N ∧ (∀ w ∈ u_ws C T N, w ∈ UU) ∧ Cond.fieldLink own i (T k).1 (T k).2.1 (T k).2.2.1 ∈ UU ∧ (∀ k, k < N → parseFieldDescriptor (T k).2.2.1 = some (ty0 k)) ∧ (∀ a, a < N → ∀ b, b < N → a ≠ b → (T a).2.1 ≠ (T b).2.1) ∧ (T k).2.2.2 = true ∧ (T k).1 = own ∧ parseFieldDescriptor (T k).2.2.1 = some ty
def CNw (own : String) (idx ci : Nat) (C : String) (T : u_T) (N : Nat) (ty : Nat → FieldType) : Prop := vwCl[ci]? = some (C, T, N) ∧ (∀ w ∈ u_ws C T N, w ∈ UU) ∧ (∀ k, k < N → parseFieldDescriptor (T k).2.2.1 = some (ty k)) ∧ Cond.classLink own idx C ∈ UU ∧ Cond.instantiable C N ∈ UU ∧ Cond.initialized C ∈ UU
section Ctor
variable {F : FX} {cc : ByteArray} {own : String} {tys : List (ClassId × FieldType)} {k n : Nat} {wd : va_W} {lv : List (Nat × Value)} {pc : Nat} {st : List Value}
theorem x_vretN {mc ms : Nat} {post : va_W → Prop} (h : FC F cc own tys) (hR : RN F tys mc ms post) (d : decode cc pc = .ok (.return_, 1)) (hp : post wd) : XW F mc ms wd lv pc [] := by
  intro H L ls hP hD hS hl
  obtain ⟨h1, -, h2⟩ := hR
  rw [h2]
  exact W.vret h.1 h.2.1 h1 (fun t ht hW => ⟨⟨wd, rfl, hp, by rw [ht]; exact hP, va_K.moved hW.alike h.2.2.2.2.2.1, hD⟩, hS.F ht⟩) hS.2.2 d h.2.2.2.2.2.2.2
theorem x_sub {wd' : va_W} (is : List Nat) (hn : va_nd is = true) (h1 : is.filterMap (fun i => wd[i]?) = wd') (h2 : is.map (fun i => wd[i]?) = wd'.map some) (g : XW F k n wd' lv pc st) : XW F k n wd lv pc st := fun H L ls hP hD hS hl => g H L ls (hP.sub is h1) (hD.sub is hn h2) hS hl
theorem x_objI (h : FC F cc own tys) {i a : Nat} (hl0 : Cond.methodLink own i Lib.objectInit ∈ UU) (hi0 : Cond.instanceMethod Lib.objectInit ∈ UU) (hc0 : Cond.code Lib.objectInit ⟨#[0xb1]⟩ 1 none ∈ UU) (d : decode cc pc = .ok (.invokespecial i, 3)) (hrs : (st.map fun v => v.category).sum ≤ 8) {j mc ms : Nat} (hRm : fx_R F = rmN j mc ms) (hj : 1 ≤ j) (g : XW F k n wd lv (pc + 3) st) : XW F k n wd lv pc (.ref a :: st) := by
  intro H L ls hP hD hS hl
  refine W.objInit h.1 h.2.1 h.2.2.2.1 (h.2.2.2.2.1 _ hl0) (h.2.2.2.2.1 _ hi0) (h.2.2.2.2.1 _ hc0) rfl (by rw [h.2.2.1]; exact hl.1) rfl d (by rw [hRm]; exact hj) ?_ (g H L ls hP hD hS hl)
  have h2 : 2 * (F0 (fx_m F) pc ls (.ref a :: st)).monitorRoom + (st.map fun v => v.category).sum ≤ 8 := lv_room hrs
  rw [hRm]
  show _ ≤ 40 * j
  omega
theorem x_newo (h : FC F cc own tys) {i ci N : Nat} {C : String} {T : u_T} {ty : Nat → FieldType} (cw : CNw own i ci C T N ty) {fs : List Value} (hfs : ∀ j, j < N → defaultValue (ty j) = vp_V fs j) (d : decode cc pc = .ok (.new i, 3)) (hk : k + 1 ≤ (fx_R F).cells) (hn : n + N ≤ (fx_R F).slots) (g : ∀ q : Nat, XW F (k + 1) (n + N) (wd ++ [(q, .inr (ci, fs))]) lv (pc + 3) (.ref q :: st)) : XW F k n wd lv pc st := by
  intro H L ls hP hD hS hl
  exact va_new h.1 h.2.1 h.2.2.2.2.1 cw.2.1 ty cw.2.2.1 h.2.2.2.1 (h.2.2.2.2.1 _ cw.2.2.2.1) (h.2.2.2.2.1 _ cw.2.2.2.2.1) (h.2.2.2.2.1 _ cw.2.2.2.2.2) h.2.2.2.2.2.1 hP hD hS h.2.2.2.2.2.2.1 cw.1 hfs hk hn d (fun q H1 hP1 hD1 hS1 => g q H1 L ls hP1 hD1 hS1 hl)
theorem x_newa (h : FC F cc own tys) {atype : ArrayType} {ty : FieldType} {cT : ClassId} (t0 : Nat) (ht : tys[t0]? = some (cT, ty)) (hty : newarray.typeOf atype = ty) (ha9 : Cond.arrayClass (newarray.typeOf atype) ∈ UU) {N : Nat} {a0 : vp_A} (ha : ∀ cA : ClassId, vp_cell cA a0 = arrV cA N (fun _ => defaultValue ty)) (hN : N < 2 ^ 31) (hb : N * componentBytes ty ≤ 536870912) (d : decode cc pc = .ok (.newarray atype, 2)) (hk : k + 1 ≤ (fx_R F).cells) (hn : n + N ≤ (fx_R F).slots) (g : ∀ q : Nat, XW F (k + 1) (n + N) (wd ++ [(q, .inl (cT, a0))]) lv (pc + 2) (.ref q :: st)) : XW F k n wd lv pc (.int (nI N) :: st) := by
  intro H L ls hP hD hS hl
  refine va_newa h.1 h.2.1 (h.2.2.2.2.1 _ ha9) hty h.2.2.2.2.2.1 hP hD hS h.2.2.2.2.2.2.1 ha (by rw [i32_lt, i32_0, nI_toI hN]; omega) (nI_clamp hN) hb hk hn d (fun q cA H1 hK1 hP1 hD1 hS1 => ?_)
  have e1 := (hK1.2 tys.length (cA, ty) (by rw [List.getElem?_append_right (Nat.le_refl _), Nat.sub_self]; rfl)).2
  have e2 := (h.2.2.2.2.2.1.2 t0 (cT, ty) ht).2
  have e := va_RA_inj e1 e2
  subst e
  exact g q H1 L ls hP1 hD1 hS1 hl
theorem x_putF (h : FC F cc own tys) (hin : (fx_M F).name = "<init>") {i ci f : Nat} {ty : FieldType} (fp : FPf own i ci f ty) (d : decode cc pc = .ok (.putfield i, 3)) (q0 : Nat) {a : Nat} {fs : List Value} (he : wd[q0]? = some (a, .inr (ci, fs))) {v : Value} (hn : narrow ty v = v) (hf : fits ty v = true) (hl9 : f < fs.length) (wd' : va_W) (hw : wd.set q0 (a, .inr (ci, fs.set f v)) = wd') (g : XW F k n wd' lv (pc + 3) st) : XW F k n wd lv pc (v :: .ref a :: st) := by
  obtain ⟨C, T, N, ty0, h1, h2, h3, h4, h5, h6, h7, h8, h9⟩ := fp
  subst hw
  intro H L ls hP hD hS hl
  exact va_putF h.1 h.2.1 h.2.2.2.2.1 h3 ty0 h5 h6 h.2.2.2.1 h.2.2.2.2.2.1 hP hD hS q0 he h1 f h2 (h.2.2.2.2.1 _ h4) (fun x hx => hx) h7 hin h8 h9 hn hf hl9 d (fun H1 L1 hP1 hD1 hS1 => g H1 L1 ls hP1 hD1 hS1 hl)
end Ctor
