/-! constructors -/
def NXs (U : State) : Prop := va_AOA .int U ∧ va_Nw (.methodLinkNest RX5 18 yX2_init RX5) U ∧ va_Nw (.methodLinkNest RX5 25 yX1_init RX5) U ∧ va_Nw (.methodLinkNest RX5 32 yX4_init RX5) U
theorem va_AOAw {t : FieldType} {s U : State} (hW : s.WarmedH U.vm) (h : va_AOA t s) : va_AOA t U := by
  have g : (Cond.arrayOver (.array t)).before #[] (s.setVm U.vm) = true := by rw [Cond.arrayOver_setVmC hW.alike]; exact h
  exact g
theorem NXs.warm {s U : State} (hW : s.WarmedH U.vm) (h : NXs s) : NXs U := ⟨va_AOAw hW h.1, va_Nw.warmM hW h.2.1, va_Nw.warmM hW h.2.2.1, va_Nw.warmM hW h.2.2.2⟩
def KPreN (D : va_G) (tys : List (ClassId × FieldType)) (wd : va_W) (av : List Value) (sz : Nat) : Array Value → State → Prop := va_Pc av (fun U => U.heap.size = sz ∧ va_P D vwCl wd U.heap ∧ va_K D vwCl tys U ∧ va_D (fun _ => True) wd ∧ NXs U)
theorem fb_preN {D : va_G} {tys : List (ClassId × FieldType)} {wd : va_W} {av : List Value} {sz : Nat} : FrameBlind (KPreN D tys wd av sz) := fun a U g mk q => by
  obtain ⟨q0, q1, qP, qK, qD, qX⟩ := q
  exact ⟨q0, q1, qP, va_K.moved (u := U) (U := U.calling g mk a) (Vm.Alike.refl U.vm) qK, qD, qX.warm (State.WarmedH.refl U)⟩
def idw (w : va_W) : va_W := w
/-- a constructor: what it leaves is one of post -/
def KN (l : Launch) (D : va_G) (tys : List (ClassId × FieldType)) (y : MethodName) (cc : ByteArray) (nL : Nat) (rm : Room) (av : List Value) (wd0 : va_W) (mc ms : Nat) (post : va_W → Prop) : Prop :=
  ∀ sz : Nat, Met l y (Cond.code y cc nL none :: UU) rm (KPreN D tys wd0 av sz) (va_Qv post (KB D tys idw (va_A wd0 sz)) (va_A wd0 sz)) mc ms (va_A wd0 sz)
def RN (F : FX) (tys : List (ClassId × FieldType)) (mc ms : Nat) (post : va_W → Prop) : Prop := (fx_M F).sig.returnType = none ∧ (fx_M F).name = "<init>" ∧ fx_Q F = MQ (fx_b F) (va_Qv post (KB (fx_D F) tys idw (fx_A F)) (fx_A F)) (fx_a F) (fx_s F) mc ms (fx_A F)
def rmN (k mc ms : Nat) : Room := { frames := k, cells := mc, slots := ms, locals := 40 * k }
theorem x_enterN {l : Launch} {D : va_G} {tys : List (ClassId × FieldType)} {y : MethodName} {cc : ByteArray} {nL : Nat} {rm : Room} {av : List Value} {wd0 : va_W} {mc ms : Nat} {post : va_W → Prop} (hy : plainName y.cls = true) (hyn : y.name = "<init>") (hlen : (lg_sl av).length ≤ nL)
    (h : ∀ F : FX, fx_l F = l → fx_D F = D → fx_n F = nL → fx_R F = rm → FC F cc y.cls tys → RN F tys mc ms post → NXs (fx_s F) → XW F 0 0 wd0 (lv_args 0 av) 0 []) : KN l D tys y cc nL rm av wd0 mc ms post := by
  intro sz
  refine Met.ofW (cc := cc) (maxL := nL) (ret := none) hy rfl ?_
  intro p e s m args below meth c s₁ B hml hv
  obtain ⟨rfl, hsz, hP, hK, hD0, hX⟩ := hv
  have hts := atoms_spec (ws := Cond.code y cc nL none :: UU) B.pre
  have hin : meth.name = "<init>" := (name_of_methodNamed B.named B.method).1.trans hyn
  subst hsz
  have hD := hD0.self (sz := s.heap.size)
  have hl := lv_entry av (n := nL) hlen
  rw [lg_entry_eq]
  have g := h (p, l, e, rm, s, m, av.toArray, below, meth, c, MQ below (va_Qv post (KB D tys idw (va_A wd0 s.heap.size)) (va_A wd0 s.heap.size)) av.toArray s mc ms (va_A wd0 s.heap.size), va_A wd0 s.heap.size, D, nL) rfl rfl rfl rfl
    ⟨B.exec, B.bytes, hml, findClass_of_methodNamed B.named, fun w hw => hts w (List.mem_cons_of_mem _ hw), hK, fun q hq => Or.inr hq, B.notSynchronized⟩ ⟨B.returns, hin, rfl⟩ hX
  exact g s.heap [] _ hP hD va_S.rf hl
theorem va_RA_inj {s : State} {c d : ClassId} {ty : FieldType} (h1 : va_RA s c ty) (h2 : va_RA s d ty) : c = d := by
  cases ty with
  | object C =>
    obtain ⟨-, -, -, -, -, a⟩ := h1
    obtain ⟨-, -, -, -, -, b⟩ := h2
    exact Option.some.inj (a.symm.trans b)
  | _ => exact Option.some.inj ((show s.vm.findClass _ = some c from h1).symm.trans (show s.vm.findClass _ = some d from h2))
def FPf (own : String) (i ci k : Nat) (ty : FieldType) : Prop := ∃ (C : String) (T : u_T) (N : Nat) (ty0 : Nat → FieldType), vwCl[ci]? = some (C, T, N) ∧ k < N ∧ (∀ w ∈ u_ws C T N, w ∈ UU) ∧ Cond.fieldLink own i (T k).1 (T k).2.1 (T k).2.2.1 ∈ UU ∧ (∀ k, k < N → parseFieldDescriptor (T k).2.2.1 = some (ty0 k)) ∧ (∀ a, a < N → ∀ b, b < N → a ≠ b → (T a).2.1 ≠ (T b).2.1) ∧ (T k).2.2.2 = true ∧ (T k).1 = own ∧ parseFieldDescriptor (T k).2.2.1 = some ty
def CNw (own : String) (idx ci : Nat) (C : String) (T : u_T) (N : Nat) (ty : Nat → FieldType) : Prop := vwCl[ci]? = some (C, T, N) ∧ (∀ w ∈ u_ws C T N, w ∈ UU) ∧ (∀ k, k < N → parseFieldDescriptor (T k).2.2.1 = some (ty k)) ∧ Cond.classLink own idx C ∈ UU ∧ Cond.instantiable C N ∈ UU ∧ Cond.initialized C ∈ UU
section Ctor
variable {F : FX} {cc : ByteArray} {own : String} {tys : List (ClassId × FieldType)} {k n : Nat} {wd : va_W} {lv : List (Nat × Value)} {pc : Nat} {st : List Value}
theorem x_vretN {mc ms : Nat} {post : va_W → Prop} (h : FC F cc own tys) (hR : RN F tys mc ms post) (d : decode cc pc = .ok (.return_, 1)) (hp : post wd) : XW F mc ms wd lv pc [] := by
  intro H L ls hP hD hS hl
  obtain ⟨h1, -, h2⟩ := hR
  rw [h2]
  exact W.vret h.1 h.2.1 h1 (fun t ht hW => ⟨⟨wd, rfl, hp, by rw [ht]; exact hP, va_K.moved hW.alike h.2.2.2.2.2.1, hD⟩, hS.F ht⟩) hS.2.2 d h.2.2.2.2.2.2.2
theorem x_sub {wd' : va_W} (is : List Nat) (hn : va_nd is = true) (h1 : is.filterMap (fun i => wd[i]?) = wd') (h2 : is.map (fun i => wd[i]?) = wd'.map some) (g : XW F k n wd' lv pc st) : XW F k n wd lv pc st := fun H L ls hP hD hS hl => g H L ls (hP.sub is h1) (hD.sub is hn h2) hS hl
theorem x_objI (h : FC F cc own tys) {i a : Nat} (hl0 : Cond.methodLink own i Lib.objectInit ∈ UU) (hi0 : Cond.instanceMethod Lib.objectInit ∈ UU) (hc0 : Cond.code Lib.objectInit ⟨#[0xb1]⟩ 1 none ∈ UU) (d : decode cc pc = .ok (.invokespecial i, 3)) (hrs : (st.map fun v => v.category).sum ≤ 8) {j mc ms : Nat} (hRm : fx_R F = rmN j mc ms) (hj : 1 ≤ j) (g : XW F k n wd lv (pc + 3) st) : XW F k n wd lv pc (.ref a :: st) := by
  intro H L ls hP hD hS hl
  refine W.objInit h.1 h.2.1 h.2.2.2.1 (h.2.2.2.2.1 _ hl0) (h.2.2.2.2.1 _ hi0) (h.2.2.2.2.1 _ hc0) rfl (by rw [h.2.2.1]; exact hl.1) rfl d (by rw [hRm]; exact hj) ?_ (g H L ls hP hD hS hl)
  have h2 : 2 * (F0 (fx_m F) pc ls (.ref a :: st)).monitorRoom + (st.map fun v => v.category).sum ≤ 8 := lv_room hrs
  rw [hRm]
  show _ ≤ 40 * j
  omega
theorem x_newo (h : FC F cc own tys) {i ci N : Nat} {C : String} {T : u_T} {ty : Nat → FieldType} (cw : CNw own i ci C T N ty) {fs : List Value} (hfs : ∀ j, j < N → defaultValue (ty j) = vp_V fs j) (d : decode cc pc = .ok (.new i, 3)) (hk : k + 1 ≤ (fx_R F).cells) (hn : n + N ≤ (fx_R F).slots) (g : ∀ q : Nat, XW F (k + 1) (n + N) (wd ++ [(q, .inr (ci, fs))]) lv (pc + 3) (.ref q :: st)) : XW F k n wd lv pc st := by
  intro H L ls hP hD hS hl
  exact va_new h.1 h.2.1 h.2.2.2.2.1 cw.2.1 ty cw.2.2.1 h.2.2.2.1 (h.2.2.2.2.1 _ cw.2.2.2.1) (h.2.2.2.2.1 _ cw.2.2.2.2.1) (h.2.2.2.2.1 _ cw.2.2.2.2.2) h.2.2.2.2.2.1 hP hD hS h.2.2.2.2.2.2.1 cw.1 hfs hk hn d (fun q H1 hP1 hD1 hS1 => g q H1 L ls hP1 hD1 hS1 hl)
theorem x_newa (h : FC F cc own tys) {atype : ArrayType} {ty : FieldType} {cT : ClassId} (t0 : Nat) (ht : tys[t0]? = some (cT, ty)) (hty : newarray.typeOf atype = ty) (ha9 : Cond.arrayClass (newarray.typeOf atype) ∈ UU) {N : Nat} {a0 : vp_A} (ha : ∀ cA : ClassId, vp_cell cA a0 = arrV cA N (fun _ => defaultValue ty)) (hN : N < 2 ^ 31) (hb : N * componentBytes ty ≤ 536870912) (d : decode cc pc = .ok (.newarray atype, 2)) (hk : k + 1 ≤ (fx_R F).cells) (hn : n + N ≤ (fx_R F).slots) (g : ∀ q : Nat, XW F (k + 1) (n + N) (wd ++ [(q, .inl (cT, a0))]) lv (pc + 2) (.ref q :: st)) : XW F k n wd lv pc (.int (nI N) :: st) := by
  intro H L ls hP hD hS hl
  refine va_newa h.1 h.2.1 (h.2.2.2.2.1 _ ha9) hty h.2.2.2.2.2.1 hP hD hS h.2.2.2.2.2.2.1 ha (by rw [i32_lt, i32_0, nI_toI hN]; omega) (nI_clamp hN) hb hk hn d (fun q cA H1 hK1 hP1 hD1 hS1 => ?_)
  have e1 := (hK1.2 tys.length (cA, ty) (by rw [List.getElem?_append_right (Nat.le_refl _), Nat.sub_self]; rfl)).2
  have e2 := (h.2.2.2.2.2.1.2 t0 (cT, ty) ht).2
  have e := va_RA_inj e1 e2
  subst e
  exact g q H1 L ls hP1 hD1 hS1 hl
theorem x_putF (h : FC F cc own tys) (hin : (fx_M F).name = "<init>") {i ci f : Nat} {ty : FieldType} (fp : FPf own i ci f ty) (d : decode cc pc = .ok (.putfield i, 3)) (q0 : Nat) {a : Nat} {fs : List Value} (he : wd[q0]? = some (a, .inr (ci, fs))) {v : Value} (hn : narrow ty v = v) (hf : fits ty v = true) (hl9 : f < fs.length) (wd' : va_W) (hw : wd.set q0 (a, .inr (ci, fs.set f v)) = wd') (g : XW F k n wd' lv (pc + 3) st) : XW F k n wd lv pc (v :: .ref a :: st) := by
  obtain ⟨C, T, N, ty0, h1, h2, h3, h4, h5, h6, h7, h8, h9⟩ := fp
  subst hw
  intro H L ls hP hD hS hl
  exact va_putF h.1 h.2.1 h.2.2.2.2.1 h3 ty0 h5 h6 h.2.2.2.1 h.2.2.2.2.2.1 hP hD hS q0 he h1 f h2 (h.2.2.2.2.1 _ h4) (fun x hx => hx) h7 hin h8 h9 hn hf hl9 d (fun H1 L1 hP1 hD1 hS1 => g H1 L1 ls hP1 hD1 hS1 hl)
end Ctor
theorem KN.fr {l : Launch} {D : va_G} {tys : List (ClassId × FieldType)} {y : MethodName} {cc : ByteArray} {nL : Nat} {rm : Room} {av : List Value} {wd0 : va_W} {mc ms : Nat} {post : va_W → Prop} (h : KN l D tys y cc nL rm av wd0 mc ms post) (L R : va_W) : KN l D tys y cc nL rm av (L ++ (wd0 ++ R)) mc ms (fun u => ∃ u0, post u0 ∧ u = L ++ (u0 ++ R)) := by
  intro sz p e h1 h2 h3 s m args below h4 h5 hP h6
  obtain ⟨rfl, rfl, hPw, hKs, hD, hX⟩ := hP
  obtain ⟨n, o, a1, a2, a3, ⟨⟨u, ho, hpost, hB1, hB2, hB3⟩, hF⟩, Ls, hE, hL⟩ := h s.heap.size p e h1 h2 h3 s m _ below h4 h5 ⟨rfl, rfl, (fr_P0 hPw).2.1, hKs, (fr_D0 hD).2.1, hX⟩ h6
  have g := fr_core hPw hD hB1 hB3 hF.2
  exact ⟨n, o, a1, a2, a3, ⟨⟨L ++ (u ++ R), ho, ⟨u, hpost, rfl⟩, g.1, hB2, g.2⟩, hF.1, fun q hq hn => hF.2 q hq (fun z => hn (vaA_mid z))⟩, Ls, hE, fun q hq => vaA_mid (hL q hq)⟩
def CWI (own : String) (i : Nat) (y : MethodName) (cy : ByteArray) (nL na : Nat) : Prop := Cond.methodLink own i y ∈ UU ∧ Cond.instanceMethod y ∈ UU ∧ Cond.initialized y.cls ∈ UU ∧ Cond.code y cy nL none ∈ UU ∧ y.name = "<init>" ∧ (y.cls ≠ "java/lang/invoke/MethodHandle" ∧ y.cls ≠ "java/lang/invoke/VarHandle" ∧ (parseMethodDescriptor y.desc).map (fun d => d.parameters.length) = some na)
def CIN (y : MethodName) (cy : ByteArray) (nL na : Nat) : Prop := Cond.instanceMethod y ∈ UU ∧ Cond.initialized y.cls ∈ UU ∧ Cond.code y cy nL none ∈ UU ∧ y.name = "<init>" ∧ (y.cls ≠ "java/lang/invoke/MethodHandle" ∧ y.cls ≠ "java/lang/invoke/VarHandle" ∧ (parseMethodDescriptor y.desc).map (fun d => d.parameters.length) = some na)
theorem good_c {y : MethodName} {cy : ByteArray} {nL : Nat} (h : Cond.code y cy nL none ∈ UU) : GoodIn UU (Cond.code y cy nL none :: UU) := by
  intro w hw
  rcases List.mem_cons.mp hw with rfl | hw
  · exact uu_good _ h
  · exact uu_good _ hw
def RmN (rm : Room) (nL mc ms k n : Nat) (R : Room) : Prop := (rm.cells = mc ∧ rm.slots = ms) ∧ (rm.frames + 1 ≤ R.frames ∧ 8 + (nL + 11) + rm.locals ≤ R.locals) ∧ (k + mc ≤ R.cells ∧ n + ms ≤ R.slots)
theorem rm_N {a b nL mc ms Mc Ms k n : Nat} {R : Room} (hR : R = rmN b Mc Ms) (h : a < b) (hn : nL ≤ 21) (h1 : k + mc ≤ Mc) (h2 : n + ms ≤ Ms) : RmN (rmN a mc ms) nL mc ms k n R := by
  subst hR
  refine ⟨⟨rfl, rfl⟩, ⟨?_, ?_⟩, ⟨h1, h2⟩⟩
  · show a + 1 ≤ b; omega
  · show 8 + (nL + 11) + 40 * a ≤ 40 * b; omega
section CtorC
variable {F : FX} {cc : ByteArray} {own : String} {tys : List (ClassId × FieldType)} {k n : Nat} {wd : va_W} {lv : List (Nat × Value)} {pc : Nat} {st0 : List Value} {i : Nat} {y : MethodName} {cy : ByteArray} {nL na mc ms b : Nat} {rm : Room} {As : List Value} {post : va_W → Prop}
theorem x_callI (h : FC F cc own tys) (cw : CWI own i y cy nL na) (hM : KN (fx_l F) (fx_D F) tys y cy nL rm (.ref b :: As) wd mc ms post) (hNX : NXs (fx_s F)) (d : decode cc pc = .ok (.invokespecial i, 3)) (rest : List Value) (hst : st0 = As.reverse ++ .ref b :: rest) (hrs : (rest.map fun v => v.category).sum ≤ 8) (hna : As.length = na) (hrm : RmN rm nL mc ms k n (fx_R F)) (kk : ∀ u : va_W, post u → XW F (k + mc) (n + ms) u lv (pc + 3) rest) : XW F k n wd lv pc st0 := by
  intro H L ls hP hD hS hl
  have hFc := x_freeF hD hS h.2.2.2.2.2.2.1
  refine va_callv (va_runI (As := As) (rest := rest) ⟨h.1, h.2.1, h.2.2.1, h.2.2.2.1, h.2.2.2.2.1⟩ (hM H.size) (cwI na h.2.2.2.2.1 (good_c cw.2.2.2.1) rfl hrm.1.1 hrm.1.2 (h.2.2.2.2.1 _ cw.2.2.1) (h.2.2.2.2.1 _ cw.1) (h.2.2.2.2.1 _ cw.2.1) cw.2.2.2.2.1 cw.2.2.2.2.2 hrm.2.1) ⟨fb_preN, fun U hU hW => ⟨rfl, by rw [hU], by rw [hU]; exact hP, va_K.moved hW.alike h.2.2.2.2.2.1, hD.weaken (fun _ _ _ _ => trivial), hNX.warm hW⟩⟩ rfl hna hl.1 hst (lv_room hrs) d hrm.2.2) hS (fun q _ hq => hFc q hq) hFc (fun u t H1 locs ht hvm hw hB hz1 hk1 hS => ?_)
  obtain ⟨hP1, hK1, hD1⟩ := hB
  rw [ht] at hP1
  exact kk u hw H1 locs ls hP1 (hD1.weaken (fun _ q _ hq => hFc _ hq)) hS hl
theorem x_callIN (h : FC F cc own tys) (cw : CIN y cy nL na) {host : String} (hl0 : va_Nw (.methodLinkNest own i y host) (fx_s F)) (hM : KN (fx_l F) (fx_D F) tys y cy nL rm (.ref b :: As) wd mc ms post) (hNX : NXs (fx_s F)) (d : decode cc pc = .ok (.invokespecial i, 3)) (rest : List Value) (hst : st0 = As.reverse ++ .ref b :: rest) (hrs : (rest.map fun v => v.category).sum ≤ 8) (hna : As.length = na) (hrm : RmN rm nL mc ms k n (fx_R F)) (kk : ∀ u : va_W, post u → XW F (k + mc) (n + ms) u lv (pc + 3) rest) : XW F k n wd lv pc st0 := by
  intro H L ls hP hD hS hl
  have hFc := x_freeF hD hS h.2.2.2.2.2.2.1
  refine va_callv (va_runIN (As := As) (rest := rest) ⟨h.1, h.2.1, h.2.2.1, h.2.2.2.1, h.2.2.2.2.1⟩ (hM H.size) ⟨va_cnB na h.2.2.2.2.1 (good_c cw.2.2.1) rfl hrm.1.1 hrm.1.2 hl0 (h.2.2.2.2.1 _ cw.2.1) cw.2.2.2.2 hrm.2.1, cw.2.2.2.1, h.2.2.2.2.1 _ cw.1⟩ ⟨fb_preN, fun U hU hW => ⟨rfl, by rw [hU], by rw [hU]; exact hP, va_K.moved hW.alike h.2.2.2.2.2.1, hD.weaken (fun _ _ _ _ => trivial), hNX.warm hW⟩⟩ rfl hna hl.1 hst (lv_room hrs) d hrm.2.2) hS (fun q _ hq => hFc q hq) hFc (fun u t H1 locs ht hvm hw hB hz1 hk1 hS => ?_)
  obtain ⟨hP1, hK1, hD1⟩ := hB
  rw [ht] at hP1
  exact kk u hw H1 locs ls hP1 (hD1.weaken (fun _ q _ hq => hFc _ hq)) hS hl
theorem va_Pcell {D : va_G} {cl : List vw_C} {X Y : va_W} {q : Nat} {c : ClassId} {A B : vp_A} {H : Heap} (e : vp_cell c A = vp_cell c B) (h : va_P D cl (X ++ (q, .inl (c, A)) :: Y) H) : va_P D cl (X ++ (q, .inl (c, B)) :: Y) H := by
  intro k p hk
  by_cases z : k = X.length
  · subst z
    rw [List.getElem?_append_right (Nat.le_refl _), Nat.sub_self] at hk
    cases hk
    have g := h X.length (q, .inl (c, A)) (by rw [List.getElem?_append_right (Nat.le_refl _), Nat.sub_self]; rfl)
    show H[q]? = some (vp_cell c B)
    rw [← e]; exact g
  · refine h k p ?_
    rcases Nat.lt_or_gt_of_ne z with z | z
    · rw [List.getElem?_append_left z] at hk ⊢; exact hk
    · rw [List.getElem?_append_right (Nat.le_of_lt z)] at hk ⊢
      obtain ⟨j, hj⟩ : ∃ j, k - X.length = j + 1 := ⟨k - X.length - 1, by omega⟩
      rw [hj] at hk ⊢
      exact hk
theorem va_Dfst {A : Nat → Prop} {w1 w2 : va_W} (e : w1.map (fun p => p.1) = w2.map (fun p => p.1)) (h : va_D A w1) : va_D A w2 := by
  have g : ∀ (i : Nat) (p : Nat × va_E), w2[i]? = some p → ∃ p', w1[i]? = some p' ∧ p'.1 = p.1 := by
    intro i p hi
    have h1 : (w2.map (fun p => p.1))[i]? = some p.1 := by rw [List.getElem?_map, hi]; rfl
    rw [← e, List.getElem?_map] at h1
    cases h2 : w1[i]? with
    | none => rw [h2] at h1; cases h1
    | some p' => rw [h2] at h1; exact ⟨p', rfl, Option.some.inj h1⟩
  refine ⟨fun i j p q hi hj hpq => ?_, fun k q hk => ?_⟩
  · obtain ⟨p', a1, a2⟩ := g i p hi
    obtain ⟨q', b1, b2⟩ := g j q hj
    exact h.1 i j p' q' a1 b1 (a2.trans (hpq.trans b2.symm))
  · obtain ⟨q', a1, a2⟩ := g k q hk
    rw [← a2]; exact h.2 k q' a1
theorem mna_str : "[" ++ (FieldType.array FieldType.int).toString = "[[I" := by decide +kernel
theorem mna_cell (cA : ClassId) (r : Nat → Nat) : vp_cell cA (3, .inr (.inr (.inr (.inr (fun i => if i < 3 then some (r i) else none))))) = vp_cell cA (3, .inr (.inr (.inr (.inr (fun j => if j = 0 then some (r 0) else if j = 1 then some (r 1) else some (r 2)))))) := by
  rw [vp_cell_q, vp_cell_q]
  unfold arrV
  have e : (fun j : Fin 3 => va_rf (if j.val < 3 then some (r j.val) else none)) = (fun j : Fin 3 => va_rf (if j.val = 0 then some (r 0) else if j.val = 1 then some (r 1) else some (r 2))) := by
    funext j
    match j with
    | ⟨0, _⟩ => rfl
    | ⟨1, _⟩ => rfl
    | ⟨2, _⟩ => rfl
  rw [e]
theorem x_mna (h : FC F cc own tys) {st : List Value} (hcl : Cond.classLink own i "[[I" ∈ UU) (hac : Cond.arrayClass .int ∈ UU) (hov : va_AOA .int (fx_s F)) (t0 t3 : Nat) {cI cA : ClassId} (ht0 : tys[t0]? = some (cI, .int)) (ht3 : tys[t3]? = some (cA, .array .int)) (d : decode cc pc = .ok (.multianewarray i 2, 4)) (hk : k + (1 + 3) ≤ (fx_R F).cells) (hn : n + (3 + 3 * 14) ≤ (fx_R F).slots)
    (g : ∀ q q0 q1 q2 : Nat, XW F (k + 1 + 3) (n + 3 + 3 * 14) (wd ++ [(q, .inl (cA, 3, .inr (.inr (.inr (.inr (fun j => if j = 0 then some q0 else if j = 1 then some q1 else some q2)))))), (q0, .inl (cI, 14, .inl (fun _ => 0))), (q1, .inl (cI, 14, .inl (fun _ => 0))), (q2, .inl (cI, 14, .inl (fun _ => 0)))]) lv (pc + 4) (.ref q :: st)) : XW F k n wd lv pc (.int (nI 14) :: .int (nI 3) :: st) := by
  intro H L ls hP hD hS hl
  have e0 : va_pl [] (fun _ => (.inr (0, []) : va_E)) = [] := rfl
  refine va_mna (X := wd) (L := []) (f := fun _ => .inr (0, [])) (ty := .int) (cy := cI) (N' := 3) (K' := 14) (z := (14, .inl (fun _ => 0))) h.1 h.2.1 h.2.2.2.1 (by rw [mna_str]; exact h.2.2.2.2.1 _ hcl) hov (h.2.2.2.2.1 _ hac) (h.2.2.2.2.2.1.2 t0 _ ht0).2 h.2.2.2.2.2.1 (by rw [e0, List.append_nil]; exact hP) (by rw [e0, List.append_nil]; exact hD) hS h.2.2.2.2.2.2.1 (by decide) (by decide) (by decide) (by decide) (by decide) (by decide) (by decide) rfl rfl hk hn (fun c => arrV_new c 14 _) d (fun q r cB H1 hr hrL hK1 hP1 hD1 hS1 => ?_)
  have e1 := (hK1.2 tys.length (cB, .array .int) (by rw [List.getElem?_append_right (Nat.le_refl _), Nat.sub_self]; rfl)).2
  have e2 := (h.2.2.2.2.2.1.2 t3 (cA, .array .int) ht3).2
  have e := va_RA_inj e1 e2
  subst e
  have m0 : r 0 ∈ (List.range 3).map r := List.mem_map.mpr ⟨0, by decide, rfl⟩
  have m1 : r 1 ∈ (List.range 3).map r := List.mem_map.mpr ⟨1, by decide, rfl⟩
  have m2 : r 2 ∈ (List.range 3).map r := List.mem_map.mpr ⟨2, by decide, rfl⟩
  have e3 : ∀ v : va_E, va_pl ([] ++ (List.range 3).map r) (vr_up (fun _ => .inr (0, [])) ((List.range 3).map r) v) = [(r 0, v), (r 1, v), (r 2, v)] := by
    intro v
    show [(r 0, vr_up _ _ _ (r 0)), (r 1, vr_up _ _ _ (r 1)), (r 2, vr_up _ _ _ (r 2))] = _
    rw [vr_up_in m0, vr_up_in m1, vr_up_in m2]
  rw [e3, List.append_assoc] at hP1 hD1
  refine g q (r 0) (r 1) (r 2) H1 L ls (va_Pcell (mna_cell _ r) hP1) (va_Dfst ?_ hD1) hS1 hl
  simp only [List.map_append]
  rfl
end CtorC
theorem oi_X0_3 : Cond.methodLink RX0 3 Lib.objectInit ∈ UU := uu_1 (i := 29) rfl rfl
theorem fq_X0_20 : FPf RX0 20 0 2 (.array (.array .int)) := ⟨RX0, TX0, 3, tyX0, rfl, by decide, ufX0, uu_1 (i := 37) rfl rfl, tyX0_ok, nmX0, rfl, rfl, by decide +kernel⟩
theorem oi_X1_1 : Cond.methodLink RX1 1 Lib.objectInit ∈ UU := uu_1 (i := 67) rfl rfl
theorem fq_X1_13 : FPf RX1 13 1 1 (.array .int) := ⟨RX1, TX1, 5, tyX1, rfl, by decide, ufX1, uu_1 (i := 70) rfl rfl, tyX1_ok, nmX1, rfl, rfl, by decide +kernel⟩
theorem fq_X1_17 : FPf RX1 17 1 2 (.array .boolean) := ⟨RX1, TX1, 5, tyX1, rfl, by decide, ufX1, uu_1 (i := 72) rfl rfl, tyX1_ok, nmX1, rfl, rfl, by decide +kernel⟩
theorem fq_X1_21 : FPf RX1 21 1 3 (.array .int) := ⟨RX1, TX1, 5, tyX1, rfl, by decide, ufX1, uu_1 (i := 74) rfl rfl, tyX1_ok, nmX1, rfl, rfl, by decide +kernel⟩
theorem fq_X1_24 : FPf RX1 24 1 4 (.array .int) := ⟨RX1, TX1, 5, tyX1, rfl, by decide, ufX1, uu_1 (i := 76) rfl rfl, tyX1_ok, nmX1, rfl, rfl, by decide +kernel⟩
theorem oi_X2_1 : Cond.methodLink RX2 1 Lib.objectInit ∈ UU := uu_1 (i := 51) rfl rfl
theorem fq_X2_13 : FPf RX2 13 2 1 (.array .int) := ⟨RX2, TX2, 2, tyX2, rfl, by decide, ufX2, uu_1 (i := 54) rfl rfl, tyX2_ok, nmX2, rfl, rfl, by decide +kernel⟩
theorem oi_X3_3 : Cond.methodLink RX3 3 Lib.objectInit ∈ UU := uu_1 (i := 138) rfl rfl
theorem fq_X3_11 : FPf RX3 11 3 2 (.array .int) := ⟨RX3, TX3, 4, tyX3, rfl, by decide, ufX3, uu_1 (i := 141) rfl rfl, tyX3_ok, nmX3, rfl, rfl, by decide +kernel⟩
theorem fq_X3_17 : FPf RX3 17 3 3 (.array .int) := ⟨RX3, TX3, 4, tyX3, rfl, by decide, ufX3, uu_1 (i := 142) rfl rfl, tyX3_ok, nmX3, rfl, rfl, by decide +kernel⟩
theorem fq_X3_20 : FPf RX3 20 3 0 (.object "NoiseKeys$Cells") := ⟨RX3, TX3, 4, tyX3, rfl, by decide, ufX3, uu_1 (i := 139) rfl rfl, tyX3_ok, nmX3, rfl, rfl, by decide +kernel⟩
theorem fq_X3_24 : FPf RX3 24 3 1 (.object "NoiseKeys$Code") := ⟨RX3, TX3, 4, tyX3, rfl, by decide, ufX3, uu_1 (i := 140) rfl rfl, tyX3_ok, nmX3, rfl, rfl, by decide +kernel⟩
theorem oi_X4_3 : Cond.methodLink RX4 3 Lib.objectInit ∈ UU := uu_1 (i := 95) rfl rfl
theorem fq_X4_13 : FPf RX4 13 4 1 (.array .boolean) := ⟨RX4, TX4, 10, tyX4, rfl, by decide, ufX4, uu_1 (i := 98) rfl rfl, tyX4_ok, nmX4, rfl, rfl, by decide +kernel⟩
theorem fq_X4_17 : FPf RX4 17 4 2 (.array .int) := ⟨RX4, TX4, 10, tyX4, rfl, by decide, ufX4, uu_1 (i := 100) rfl rfl, tyX4_ok, nmX4, rfl, rfl, by decide +kernel⟩
theorem fq_X4_21 : FPf RX4 21 4 3 (.array .boolean) := ⟨RX4, TX4, 10, tyX4, rfl, by decide, ufX4, uu_1 (i := 102) rfl rfl, tyX4_ok, nmX4, rfl, rfl, by decide +kernel⟩
theorem fq_X4_31 : FPf RX4 31 4 6 (.array .int) := ⟨RX4, TX4, 10, tyX4, rfl, by decide, ufX4, uu_1 (i := 107) rfl rfl, tyX4_ok, nmX4, rfl, rfl, by decide +kernel⟩
theorem fq_X4_34 : FPf RX4 34 4 7 (.array .int) := ⟨RX4, TX4, 10, tyX4, rfl, by decide, ufX4, uu_1 (i := 109) rfl rfl, tyX4_ok, nmX4, rfl, rfl, by decide +kernel⟩
theorem fq_X4_37 : FPf RX4 37 4 8 (.array .int) := ⟨RX4, TX4, 10, tyX4, rfl, by decide, ufX4, uu_1 (i := 110) rfl rfl, tyX4_ok, nmX4, rfl, rfl, by decide +kernel⟩
theorem fq_X4_40 : FPf RX4 40 4 9 (.array .int) := ⟨RX4, TX4, 10, tyX4, rfl, by decide, ufX4, uu_1 (i := 111) rfl rfl, tyX4_ok, nmX4, rfl, rfl, by decide +kernel⟩
theorem oi_X5_1 : Cond.methodLink RX5 1 Lib.objectInit ∈ UU := uu_1 (i := 21) rfl rfl
theorem nw_X5_7 : CNw RX5 7 0 RX0 TX0 3 tyX0 := ⟨rfl, ufX0, tyX0_ok, uu_1 (i := 24) rfl rfl, uu_1 (i := 25) rfl rfl, uu_1 (i := 2) rfl rfl⟩
theorem ci_X5_9 : CWI RX5 9 yX0_init cX0_init 2 0 := ⟨uu_1 (i := 26) rfl rfl, uu_1 (i := 27) rfl rfl, uu_1 (i := 2) rfl rfl, uu_1 (i := 28) rfl rfl, rfl, by decide +kernel⟩
theorem fq_X5_10 : FPf RX5 10 5 0 (.object "NoiseKeys$Cells") := ⟨RX5, TX5, 6, tyX5, rfl, by decide, ufX5, uu_1 (i := 152) rfl rfl, tyX5_ok, nmX5, rfl, rfl, by decide +kernel⟩
theorem nw_X5_16 : CNw RX5 16 2 RX2 TX2 2 tyX2 := ⟨rfl, ufX2, tyX2_ok, uu_1 (i := 46) rfl rfl, uu_1 (i := 47) rfl rfl, uu_1 (i := 3) rfl rfl⟩
theorem ci_X5_18 : CIN yX2_init cX2_init 1 0 := ⟨uu_1 (i := 49) rfl rfl, uu_1 (i := 3) rfl rfl, uu_1 (i := 50) rfl rfl, rfl, by decide +kernel⟩
theorem fq_X5_19 : FPf RX5 19 5 1 (.object "NoiseKeys$Code") := ⟨RX5, TX5, 6, tyX5, rfl, by decide, ufX5, uu_1 (i := 153) rfl rfl, tyX5_ok, nmX5, rfl, rfl, by decide +kernel⟩
theorem nw_X5_23 : CNw RX5 23 1 RX1 TX1 5 tyX1 := ⟨rfl, ufX1, tyX1_ok, uu_1 (i := 62) rfl rfl, uu_1 (i := 63) rfl rfl, uu_1 (i := 4) rfl rfl⟩
theorem ci_X5_25 : CIN yX1_init cX1_init 1 0 := ⟨uu_1 (i := 65) rfl rfl, uu_1 (i := 4) rfl rfl, uu_1 (i := 66) rfl rfl, rfl, by decide +kernel⟩
theorem fq_X5_26 : FPf RX5 26 5 2 (.object "NoiseKeys$Chips") := ⟨RX5, TX5, 6, tyX5, rfl, by decide, ufX5, uu_1 (i := 154) rfl rfl, tyX5_ok, nmX5, rfl, rfl, by decide +kernel⟩
theorem nw_X5_30 : CNw RX5 30 4 RX4 TX4 10 tyX4 := ⟨rfl, ufX4, tyX4_ok, uu_1 (i := 90) rfl rfl, uu_1 (i := 91) rfl rfl, uu_1 (i := 5) rfl rfl⟩
theorem ci_X5_32 : CIN yX4_init cX4_init 1 0 := ⟨uu_1 (i := 93) rfl rfl, uu_1 (i := 5) rfl rfl, uu_1 (i := 94) rfl rfl, rfl, by decide +kernel⟩
theorem fq_X5_33 : FPf RX5 33 5 3 (.object "NoiseKeys$Pairs") := ⟨RX5, TX5, 6, tyX5, rfl, by decide, ufX5, uu_1 (i := 155) rfl rfl, tyX5_ok, nmX5, rfl, rfl, by decide +kernel⟩
theorem nw_X5_37 : CNw RX5 37 3 RX3 TX3 4 tyX3 := ⟨rfl, ufX3, tyX3_ok, uu_1 (i := 133) rfl rfl, uu_1 (i := 134) rfl rfl, uu_1 (i := 6) rfl rfl⟩
theorem ci_X5_39 : CWI RX5 39 yX3_init cX3_init 3 2 := ⟨uu_1 (i := 135) rfl rfl, uu_1 (i := 136) rfl rfl, uu_1 (i := 6) rfl rfl, uu_1 (i := 137) rfl rfl, rfl, by decide +kernel⟩
theorem fq_X5_42 : FPf RX5 42 5 4 (.object "NoiseKeys$Flips") := ⟨RX5, TX5, 6, tyX5, rfl, by decide, ufX5, uu_1 (i := 156) rfl rfl, tyX5_ok, nmX5, rfl, rfl, by decide +kernel⟩
theorem fq_X5_46 : FPf RX5 46 5 5 (.array .int) := ⟨RX5, TX5, 6, tyX5, rfl, by decide, ufX5, uu_1 (i := 157) rfl rfl, tyX5_ok, nmX5, rfl, rfl, by decide +kernel⟩
theorem oi_X6_1 : Cond.methodLink RX6 1 Lib.objectInit ∈ UU := uu_3 (i := 180) rfl rfl
theorem fq_X6_7 : FPf RX6 7 6 0 (.array .int) := ⟨RX6, TX6, 25, tyX6, rfl, by decide, ufX6, uu_3 (i := 181) rfl rfl, tyX6_ok, nmX6, rfl, rfl, by decide +kernel⟩
theorem fq_X6_13 : FPf RX6 13 6 1 (.array .int) := ⟨RX6, TX6, 25, tyX6, rfl, by decide, ufX6, uu_3 (i := 182) rfl rfl, tyX6_ok, nmX6, rfl, rfl, by decide +kernel⟩
theorem fq_X6_16 : FPf RX6 16 6 2 (.array .int) := ⟨RX6, TX6, 25, tyX6, rfl, by decide, ufX6, uu_3 (i := 183) rfl rfl, tyX6_ok, nmX6, rfl, rfl, by decide +kernel⟩
theorem fq_X6_19 : FPf RX6 19 6 3 (.array .int) := ⟨RX6, TX6, 25, tyX6, rfl, by decide, ufX6, uu_3 (i := 184) rfl rfl, tyX6_ok, nmX6, rfl, rfl, by decide +kernel⟩
theorem fq_X6_22 : FPf RX6 22 6 4 (.array .int) := ⟨RX6, TX6, 25, tyX6, rfl, by decide, ufX6, uu_3 (i := 185) rfl rfl, tyX6_ok, nmX6, rfl, rfl, by decide +kernel⟩
theorem fq_X6_25 : FPf RX6 25 6 5 (.array .int) := ⟨RX6, TX6, 25, tyX6, rfl, by decide, ufX6, uu_3 (i := 186) rfl rfl, tyX6_ok, nmX6, rfl, rfl, by decide +kernel⟩
theorem fq_X6_28 : FPf RX6 28 6 6 (.array .int) := ⟨RX6, TX6, 25, tyX6, rfl, by decide, ufX6, uu_3 (i := 187) rfl rfl, tyX6_ok, nmX6, rfl, rfl, by decide +kernel⟩
theorem fq_X6_31 : FPf RX6 31 6 7 (.array .int) := ⟨RX6, TX6, 25, tyX6, rfl, by decide, ufX6, uu_3 (i := 188) rfl rfl, tyX6_ok, nmX6, rfl, rfl, by decide +kernel⟩
theorem fq_X6_34 : FPf RX6 34 6 8 (.array .int) := ⟨RX6, TX6, 25, tyX6, rfl, by decide, ufX6, uu_3 (i := 189) rfl rfl, tyX6_ok, nmX6, rfl, rfl, by decide +kernel⟩
theorem fq_X6_37 : FPf RX6 37 6 9 (.array .boolean) := ⟨RX6, TX6, 25, tyX6, rfl, by decide, ufX6, uu_3 (i := 190) rfl rfl, tyX6_ok, nmX6, rfl, rfl, by decide +kernel⟩
theorem fq_X6_41 : FPf RX6 41 6 10 (.array .boolean) := ⟨RX6, TX6, 25, tyX6, rfl, by decide, ufX6, uu_3 (i := 191) rfl rfl, tyX6_ok, nmX6, rfl, rfl, by decide +kernel⟩
theorem fq_X6_48 : FPf RX6 48 6 16 (.array .int) := ⟨RX6, TX6, 25, tyX6, rfl, by decide, ufX6, uu_3 (i := 197) rfl rfl, tyX6_ok, nmX6, rfl, rfl, by decide +kernel⟩
theorem fq_X6_51 : FPf RX6 51 6 17 (.array .int) := ⟨RX6, TX6, 25, tyX6, rfl, by decide, ufX6, uu_3 (i := 198) rfl rfl, tyX6_ok, nmX6, rfl, rfl, by decide +kernel⟩
theorem fq_X6_54 : FPf RX6 54 6 18 (.array .boolean) := ⟨RX6, TX6, 25, tyX6, rfl, by decide, ufX6, uu_3 (i := 199) rfl rfl, tyX6_ok, nmX6, rfl, rfl, by decide +kernel⟩
theorem fq_X6_57 : FPf RX6 57 6 20 (.array .long) := ⟨RX6, TX6, 25, tyX6, rfl, by decide, ufX6, uu_3 (i := 201) rfl rfl, tyX6_ok, nmX6, rfl, rfl, by decide +kernel⟩
theorem fq_X6_61 : FPf RX6 61 6 22 (.array .int) := ⟨RX6, TX6, 25, tyX6, rfl, by decide, ufX6, uu_3 (i := 203) rfl rfl, tyX6_ok, nmX6, rfl, rfl, by decide +kernel⟩
theorem fq_X6_64 : FPf RX6 64 6 23 (.array .int) := ⟨RX6, TX6, 25, tyX6, rfl, by decide, ufX6, uu_3 (i := 204) rfl rfl, tyX6_ok, nmX6, rfl, rfl, by decide +kernel⟩
theorem fq_X6_67 : FPf RX6 67 6 24 (.array .int) := ⟨RX6, TX6, 25, tyX6, rfl, by decide, ufX6, uu_3 (i := 205) rfl rfl, tyX6_ok, nmX6, rfl, rfl, by decide +kernel⟩
theorem nw_L_8 : CNw RL 8 5 RX5 TX5 6 tyX5 := ⟨rfl, ufX5, tyX5_ok, uu_1 (i := 16) rfl rfl, uu_1 (i := 17) rfl rfl, uu_1 (i := 1) rfl rfl⟩
theorem ci_L_21 : CWI RL 21 yX5_init cX5_init 1 0 := ⟨uu_1 (i := 18) rfl rfl, uu_1 (i := 19) rfl rfl, uu_1 (i := 1) rfl rfl, uu_1 (i := 20) rfl rfl, rfl, by decide +kernel⟩
theorem nw_L_22 : CNw RL 22 6 RX6 TX6 25 tyX6 := ⟨rfl, ufX6, tyX6_ok, uu_3 (i := 175) rfl rfl, uu_3 (i := 176) rfl rfl, uu_1 (i := 7) rfl rfl⟩
theorem ci_L_24 : CWI RL 24 yX6_init cX6_init 2 0 := ⟨uu_3 (i := 177) rfl rfl, uu_3 (i := 178) rfl rfl, uu_1 (i := 7) rfl rfl, uu_3 (i := 179) rfl rfl, rfl, by decide +kernel⟩
theorem oi_i : Cond.instanceMethod Lib.objectInit ∈ UU := uu_1 (i := 22) rfl rfl
theorem oi_c : Cond.code Lib.objectInit ⟨#[0xb1]⟩ 1 none ∈ UU := uu_1 (i := 23) rfl rfl
theorem ar_i : Cond.arrayClass .int ∈ UU := uu_1 (i := 45) rfl rfl
theorem ar_z : Cond.arrayClass .boolean ∈ UU := uu_1 (i := 89) rfl rfl
theorem ar_l : Cond.arrayClass .long ∈ UU := uu_4 (i := 17) rfl rfl
theorem cl_X0_18 : Cond.classLink RX0 18 "[[I" ∈ UU := uu_1 (i := 30) rfl rfl
