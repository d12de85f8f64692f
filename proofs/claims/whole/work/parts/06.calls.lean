/-! contracts: the world w m0 at the start, w m at the end -/
def KPre (D : va_G) (tys : List (ClassId × FieldType)) (wd : va_W) (av : List Value) (sz : Nat) : Array Value → State → Prop := va_Pc av (fun U => U.heap.size = sz ∧ va_P D vwCl wd U.heap ∧ va_K D vwCl tys U ∧ va_D (fun _ => True) wd)
def KB (D : va_G) (tys : List (ClassId × FieldType)) {M : Type} (w : M → va_W) (A : Nat → Prop) (m : M) (t : State) : Prop := va_P D vwCl (w m) t.heap ∧ va_K D vwCl tys t ∧ va_D A (w m)
def KI (l : Launch) (D : va_G) (tys : List (ClassId × FieldType)) {M : Type} (w : M → va_W) (y : MethodName) (cc : ByteArray) (nL : Nat) (ty : FieldType) (rm : Room) (av : List Value) (m0 : M) (post : Int32 → M → Prop) : Prop :=
  ∀ sz : Nat, Met l y (Cond.code y cc nL (some ty) :: UU) rm (KPre D tys (w m0) av sz) (va_Qi post (KB D tys w (va_A (w m0) sz)) (va_A (w m0) sz)) 0 0 (va_A (w m0) sz)
def KL (l : Launch) (D : va_G) (tys : List (ClassId × FieldType)) {M : Type} (w : M → va_W) (y : MethodName) (cc : ByteArray) (nL : Nat) (rm : Room) (av : List Value) (m0 : M) (post : Int64 → M → Prop) : Prop :=
  ∀ sz : Nat, Met l y (Cond.code y cc nL (some .long) :: UU) rm (KPre D tys (w m0) av sz) (va_Ql post (KB D tys w (va_A (w m0) sz)) (va_A (w m0) sz)) 0 0 (va_A (w m0) sz)
def KV (l : Launch) (D : va_G) (tys : List (ClassId × FieldType)) {M : Type} (w : M → va_W) (y : MethodName) (cc : ByteArray) (nL : Nat) (rm : Room) (av : List Value) (m0 : M) (post : M → Prop) : Prop :=
  ∀ sz : Nat, Met l y (Cond.code y cc nL none :: UU) rm (KPre D tys (w m0) av sz) (va_Qv post (KB D tys w (va_A (w m0) sz)) (va_A (w m0) sz)) 0 0 (va_A (w m0) sz)
/-- the frame's end is that of a contract -/
def RI (F : FX) (tys : List (ClassId × FieldType)) {M : Type} (w : M → va_W) (ty : FieldType) (post : Int32 → M → Prop) : Prop := (fx_M F).sig.returnType = some ty ∧ fx_Q F = MQ (fx_b F) (va_Qi post (KB (fx_D F) tys w (fx_A F)) (fx_A F)) (fx_a F) (fx_s F) 0 0 (fx_A F)
def RL9 (F : FX) (tys : List (ClassId × FieldType)) {M : Type} (w : M → va_W) (post : Int64 → M → Prop) : Prop := (fx_M F).sig.returnType = some .long ∧ fx_Q F = MQ (fx_b F) (va_Ql post (KB (fx_D F) tys w (fx_A F)) (fx_A F)) (fx_a F) (fx_s F) 0 0 (fx_A F)
def RV (F : FX) (tys : List (ClassId × FieldType)) {M : Type} (w : M → va_W) (post : M → Prop) : Prop := (fx_M F).sig.returnType = none ∧ fx_Q F = MQ (fx_b F) (va_Qv post (KB (fx_D F) tys w (fx_A F)) (fx_A F)) (fx_a F) (fx_s F) 0 0 (fx_A F)
section Ends9
variable {F : FX} {cc : ByteArray} {own : String} {tys : List (ClassId × FieldType)} {M : Type} {w : M → va_W} {lv : List (Nat × Value)} {pc : Nat}
theorem x_iret (h : FC F cc own tys) {post : Int32 → M → Prop} (hR : RI F tys w .int post) (d : decode cc pc = .ok (.ireturn, 1)) {r : Int32} {m : M} (hp : post r m) : XW F 0 0 (w m) lv pc [.int r] := by
  intro H L ls hP hD hS hl
  obtain ⟨h1, h2⟩ := hR
  rw [h2]
  exact W.iret h.1 h.2.1 h1 (fun t ht hW => ⟨⟨r, m, rfl, hp, by rw [ht]; exact hP, va_K.moved hW.alike h.2.2.2.2.2.1, hD⟩, hS.F ht⟩) hS.2.2 d h.2.2.2.2.2.2.2
theorem x_zret (h : FC F cc own tys) {post : Int32 → M → Prop} (hR : RI F tys w .boolean post) (d : decode cc pc = .ok (.ireturn, 1)) {r : Int32} {m : M} (hn : narrow .boolean (.int r) = .int r) (hp : post r m) : XW F 0 0 (w m) lv pc [.int r] := by
  intro H L ls hP hD hS hl
  obtain ⟨h1, h2⟩ := hR
  rw [h2]
  exact W.zret h.1 h.2.1 h1 hn (fun t ht hW => ⟨⟨r, m, rfl, hp, by rw [ht]; exact hP, va_K.moved hW.alike h.2.2.2.2.2.1, hD⟩, hS.F ht⟩) hS.2.2 d h.2.2.2.2.2.2.2
theorem x_lret (h : FC F cc own tys) {post : Int64 → M → Prop} (hR : RL9 F tys w post) (d : decode cc pc = .ok (.lreturn, 1)) {r : Int64} {m : M} (hp : post r m) : XW F 0 0 (w m) lv pc [.long r] := by
  intro H L ls hP hD hS hl
  obtain ⟨h1, h2⟩ := hR
  rw [h2]
  exact W.lret h.1 h.2.1 h1 (fun t ht hW => ⟨⟨r, m, rfl, hp, by rw [ht]; exact hP, va_K.moved hW.alike h.2.2.2.2.2.1, hD⟩, hS.F ht⟩) hS.2.2 d h.2.2.2.2.2.2.2
theorem x_vret (h : FC F cc own tys) {post : M → Prop} (hR : RV F tys w post) (d : decode cc pc = .ok (.return_, 1)) {m : M} (hp : post m) : XW F 0 0 (w m) lv pc [] := by
  intro H L ls hP hD hS hl
  obtain ⟨h1, h2⟩ := hR
  rw [h2]
  exact W.vret h.1 h.2.1 h1 (fun t ht hW => ⟨⟨m, rfl, hp, by rw [ht]; exact hP, va_K.moved hW.alike h.2.2.2.2.2.1, hD⟩, hS.F ht⟩) hS.2.2 d h.2.2.2.2.2.2.2
end Ends9
section Enters
variable {l : Launch} {D : va_G} {tys : List (ClassId × FieldType)} {M : Type} {w : M → va_W} {y : MethodName} {cc : ByteArray} {nL : Nat} {rm : Room} {av : List Value} {m0 : M}
theorem x_enterI {ty : FieldType} {post : Int32 → M → Prop} (hy : plainName y.cls = true) (hlen : (lg_sl av).length ≤ nL) (h : ∀ F : FX, fx_l F = l → fx_D F = D → fx_n F = nL → fx_R F = rm → FC F cc y.cls tys → RI F tys w ty post → XW F 0 0 (w m0) (lv_args 0 av) 0 []) : KI l D tys w y cc nL ty rm av m0 post := by
  intro sz
  refine Met.ofW (cc := cc) (maxL := nL) (ret := some ty) hy rfl ?_
  intro p e s m args below meth c s₁ B hml hv
  obtain ⟨rfl, hsz, hP, hK, hD0⟩ := hv
  have hts := atoms_spec (ws := Cond.code y cc nL (some ty) :: UU) B.pre
  subst hsz
  have hD := hD0.self (sz := s.heap.size)
  have hl := lv_entry av (n := nL) hlen
  rw [lg_entry_eq]
  have g := h (p, l, e, rm, s, m, av.toArray, below, meth, c, MQ below (va_Qi post (KB D tys w (va_A (w m0) s.heap.size)) (va_A (w m0) s.heap.size)) av.toArray s 0 0 (va_A (w m0) s.heap.size), va_A (w m0) s.heap.size, D, nL) rfl rfl rfl rfl
    ⟨B.exec, B.bytes, hml, findClass_of_methodNamed B.named, fun w hw => hts w (List.mem_cons_of_mem _ hw), hK, fun q hq => Or.inr hq, B.notSynchronized⟩ ⟨B.returns, rfl⟩
  exact g s.heap [] _ hP hD va_S.rf hl
theorem x_enterL {post : Int64 → M → Prop} (hy : plainName y.cls = true) (hlen : (lg_sl av).length ≤ nL) (h : ∀ F : FX, fx_l F = l → fx_D F = D → fx_n F = nL → fx_R F = rm → FC F cc y.cls tys → RL9 F tys w post → XW F 0 0 (w m0) (lv_args 0 av) 0 []) : KL l D tys w y cc nL rm av m0 post := by
  intro sz
  refine Met.ofW (cc := cc) (maxL := nL) (ret := some .long) hy rfl ?_
  intro p e s m args below meth c s₁ B hml hv
  obtain ⟨rfl, hsz, hP, hK, hD0⟩ := hv
  have hts := atoms_spec (ws := Cond.code y cc nL (some .long) :: UU) B.pre
  subst hsz
  have hD := hD0.self (sz := s.heap.size)
  have hl := lv_entry av (n := nL) hlen
  rw [lg_entry_eq]
  have g := h (p, l, e, rm, s, m, av.toArray, below, meth, c, MQ below (va_Ql post (KB D tys w (va_A (w m0) s.heap.size)) (va_A (w m0) s.heap.size)) av.toArray s 0 0 (va_A (w m0) s.heap.size), va_A (w m0) s.heap.size, D, nL) rfl rfl rfl rfl
    ⟨B.exec, B.bytes, hml, findClass_of_methodNamed B.named, fun w hw => hts w (List.mem_cons_of_mem _ hw), hK, fun q hq => Or.inr hq, B.notSynchronized⟩ ⟨B.returns, rfl⟩
  exact g s.heap [] _ hP hD va_S.rf hl
theorem x_enterV {post : M → Prop} (hy : plainName y.cls = true) (hlen : (lg_sl av).length ≤ nL) (h : ∀ F : FX, fx_l F = l → fx_D F = D → fx_n F = nL → fx_R F = rm → FC F cc y.cls tys → RV F tys w post → XW F 0 0 (w m0) (lv_args 0 av) 0 []) : KV l D tys w y cc nL rm av m0 post := by
  intro sz
  refine Met.ofW (cc := cc) (maxL := nL) (ret := none) hy rfl ?_
  intro p e s m args below meth c s₁ B hml hv
  obtain ⟨rfl, hsz, hP, hK, hD0⟩ := hv
  have hts := atoms_spec (ws := Cond.code y cc nL (none) :: UU) B.pre
  subst hsz
  have hD := hD0.self (sz := s.heap.size)
  have hl := lv_entry av (n := nL) hlen
  rw [lg_entry_eq]
  have g := h (p, l, e, rm, s, m, av.toArray, below, meth, c, MQ below (va_Qv post (KB D tys w (va_A (w m0) s.heap.size)) (va_A (w m0) s.heap.size)) av.toArray s 0 0 (va_A (w m0) s.heap.size), va_A (w m0) s.heap.size, D, nL) rfl rfl rfl rfl
    ⟨B.exec, B.bytes, hml, findClass_of_methodNamed B.named, fun w hw => hts w (List.mem_cons_of_mem _ hw), hK, fun q hq => Or.inr hq, B.notSynchronized⟩ ⟨B.returns, rfl⟩
  exact g s.heap [] _ hP hD va_S.rf hl
end Enters
/-! calls -/
theorem fb_pre {D : va_G} {tys : List (ClassId × FieldType)} {wd : va_W} {av : List Value} {sz : Nat} : FrameBlind (KPre D tys wd av sz) := fun a U g mk q => by
  obtain ⟨q0, q1, qP, qK, qD⟩ := q
  exact ⟨q0, q1, qP, va_K.moved (u := U) (U := U.calling g mk a) (Vm.Alike.refl U.vm) qK, qD⟩
def CWV (own : String) (i : Nat) (C : String) (y : MethodName) (cy : ByteArray) (nL : Nat) (ret : Option FieldType) (na : Nat) : Prop := Cond.methodLink own i y ∈ UU ∧ Cond.instanceMethod y ∈ UU ∧ Cond.selects C y y ∈ UU ∧ Cond.initialized C ∈ UU ∧ Cond.code y cy nL ret ∈ UU ∧ (y.cls = C ∧ y.cls ≠ "java/lang/invoke/MethodHandle" ∧ y.cls ≠ "java/lang/invoke/VarHandle" ∧ (parseMethodDescriptor y.desc).map (fun d => d.parameters.length) = some na)
def CWS (own : String) (i : Nat) (y : MethodName) (cy : ByteArray) (nL : Nat) (ret : Option FieldType) (na : Nat) : Prop := Cond.methodLink own i y ∈ UU ∧ Cond.static y ∈ UU ∧ Cond.initialized y.cls ∈ UU ∧ Cond.code y cy nL ret ∈ UU ∧ (y.cls ≠ "java/lang/invoke/MethodHandle" ∧ y.cls ≠ "java/lang/invoke/VarHandle" ∧ (parseMethodDescriptor y.desc).map (fun d => d.parameters.length) = some na)
theorem good_all {own : String} {i : Nat} {C : String} {y : MethodName} {cy : ByteArray} {nL : Nat} {ret : Option FieldType} {na : Nat} (h : CWV own i C y cy nL ret na) : GoodIn UU (wsV own i C y (Cond.code y cy nL ret :: UU)) := by
  obtain ⟨h1, h2, h3, h4, h5, -⟩ := h
  intro w hw
  have hu : w ∈ UU := by
    rcases List.mem_append.mp hw with hw | hw
    · rcases List.mem_cons.mp hw with rfl | hw
      · exact h1
      rcases List.mem_cons.mp hw with rfl | hw
      · exact h2
      rcases List.mem_cons.mp hw with rfl | hw
      · exact h3
      rcases List.mem_cons.mp hw with rfl | hw
      · exact h4
      cases hw
    · rcases List.mem_cons.mp hw with rfl | hw
      · exact h5
      · exact hw
  exact uu_good w hu
theorem good_allS {own : String} {i : Nat} {y : MethodName} {cy : ByteArray} {nL : Nat} {ret : Option FieldType} {na : Nat} (h : CWS own i y cy nL ret na) : GoodIn UU (va_wsS own i y (Cond.code y cy nL ret :: UU)) := by
  obtain ⟨h1, h2, h3, h4, -⟩ := h
  intro w hw
  have hu : w ∈ UU := by
    rcases List.mem_append.mp hw with hw | hw
    · rcases List.mem_cons.mp hw with rfl | hw
      · exact h1
      rcases List.mem_cons.mp hw with rfl | hw
      · exact h2
      rcases List.mem_cons.mp hw with rfl | hw
      · exact h3
      cases hw
    · rcases List.mem_cons.mp hw with rfl | hw
      · exact h4
      · exact hw
  exact uu_good w hu
/-- a callee's room fits into this frame's -/
def RmOk (rm : Room) (nL k n : Nat) (R : Room) : Prop := (rm.cells = 0 ∧ rm.slots = 0) ∧ (rm.frames + 1 ≤ R.frames ∧ 8 + (nL + 11) + rm.locals ≤ R.locals) ∧ (k + 0 ≤ R.cells ∧ n + 0 ≤ R.slots)
theorem rm_ok {a b nL : Nat} {R : Room} (hR : R = rmL b) (h : a < b) (hn : nL ≤ 21) : RmOk (rmL a) nL 0 0 R := by
  subst hR
  refine ⟨⟨rfl, rfl⟩, ⟨?_, ?_⟩, ⟨Nat.le_refl _, Nat.le_refl _⟩⟩
  · show a + 1 ≤ b; omega
  · show 8 + (nL + 11) + 40 * a ≤ 40 * b; omega
section Calls9
variable {F : FX} {cc : ByteArray} {own : String} {tys : List (ClassId × FieldType)} {M : Type} {w : M → va_W} {lv : List (Nat × Value)} {pc k n : Nat} {i : Nat} {C : String} {y : MethodName} {cy : ByteArray} {nL : Nat} {na : Nat} {rm : Room} {m0 : M} {b : Nat} {As st0 : List Value}
theorem x_freeF {H0 H : Heap} {locs : List Loc} {A : Nat → Prop} {wd : va_W} (hD : va_D A wd) (hS : va_S A H0 H locs) (hA : ∀ q, H0.size ≤ q → A q) : ∀ q, va_A wd H.size q → A q := by
  intro q hq
  rcases hq with ⟨k, e, hk⟩ | hq
  · exact hD.2 k (q, e) hk
  · exact hA q (Nat.le_trans hS.1 hq)
theorem x_callVI (h : FC F cc own tys) {ty : FieldType} {post : Int32 → M → Prop} (cw : CWV own i C y cy nL (some ty) na) (hM : KI (fx_l F) (fx_D F) tys w y cy nL ty rm (.ref b :: As) m0 post) (d : decode cc pc = .ok (.invokevirtual i, 3)) (rest : List Value) (hst : st0 = As.reverse ++ .ref b :: rest) (hrs : (rest.map fun v => v.category).sum ≤ 8) (hna : As.length = na) (hrm : RmOk rm nL k n (fx_R F)) (ci q0 : Nat) {T : u_T} {N : Nat} (hc : vwCl[ci]? = some (C, T, N)) {fs : List Value} (he : (w m0)[q0]? = some (b, .inr (ci, fs)))
    (kk : ∀ (r : Int32) (m : M), post r m → XW F k n (w m) lv (pc + 3) (.int r :: rest)) : XW F k n (w m0) lv pc st0 := by
  intro H L ls hP hD hS hl
  have hFc := x_freeF hD hS h.2.2.2.2.2.2.1
  refine va_calli (va_runV (As := As) (rest := rest) ⟨h.1, h.2.1, h.2.2.1, h.2.2.2.1, h.2.2.2.2.1⟩ (hM H.size) (cwV na h.2.2.2.2.1 (good_all cw) rfl hrm.1.1 hrm.1.2 cw.2.2.2.2.2 hrm.2.1) ⟨fb_pre, va_recv h.2.2.2.2.2.1 hP hc he, fun U hU hW => ⟨rfl, by rw [hU], by rw [hU]; exact hP, va_K.moved hW.alike h.2.2.2.2.2.1, hD.weaken (fun _ _ _ _ => trivial)⟩⟩ rfl hna hl.1 hst (lv_room hrs) d hrm.2.2) hS (fun q _ hq => hFc q hq) hFc (fun r m t H1 locs ht hvm hw hB hz1 hk1 hS => ?_)
  obtain ⟨hP1, hK1, hD1⟩ := hB
  rw [ht] at hP1
  exact kk r m hw H1 locs ls hP1 (hD1.weaken (fun _ q _ hq => hFc _ hq)) hS hl
theorem x_callSI (h : FC F cc own tys) {ty : FieldType} {post : Int32 → M → Prop} (cw : CWS own i y cy nL (some ty) na) (hM : KI (fx_l F) (fx_D F) tys w y cy nL ty rm As m0 post) (d : decode cc pc = .ok (.invokestatic i, 3)) (rest : List Value) (hst : st0 = As.reverse ++ rest) (hrs : (rest.map fun v => v.category).sum ≤ 8) (hna : As.length = na) (hrm : RmOk rm nL k n (fx_R F))
    (kk : ∀ (r : Int32) (m : M), post r m → XW F k n (w m) lv (pc + 3) (.int r :: rest)) : XW F k n (w m0) lv pc st0 := by
  intro H L ls hP hD hS hl
  have hFc := x_freeF hD hS h.2.2.2.2.2.2.1
  refine va_calli (va_runS (As := As) (rest := rest) ⟨h.1, h.2.1, h.2.2.1, h.2.2.2.1, h.2.2.2.2.1⟩ (hM H.size) (va_cwS na h.2.2.2.2.1 (good_allS cw) rfl hrm.1.1 hrm.1.2 cw.2.2.2.2 hrm.2.1) ⟨fb_pre, fun U hU hW => ⟨rfl, by rw [hU], by rw [hU]; exact hP, va_K.moved hW.alike h.2.2.2.2.2.1, hD.weaken (fun _ _ _ _ => trivial)⟩⟩ rfl hna hl.1 hst (lv_room hrs) d hrm.2.2) hS (fun q _ hq => hFc q hq) hFc (fun r m t H1 locs ht hvm hw hB hz1 hk1 hS => ?_)
  obtain ⟨hP1, hK1, hD1⟩ := hB
  rw [ht] at hP1
  exact kk r m hw H1 locs ls hP1 (hD1.weaken (fun _ q _ hq => hFc _ hq)) hS hl
theorem x_callVL (h : FC F cc own tys) {post : Int64 → M → Prop} (cw : CWV own i C y cy nL (some .long) na) (hM : KL (fx_l F) (fx_D F) tys w y cy nL rm (.ref b :: As) m0 post) (d : decode cc pc = .ok (.invokevirtual i, 3)) (rest : List Value) (hst : st0 = As.reverse ++ .ref b :: rest) (hrs : (rest.map fun v => v.category).sum ≤ 8) (hna : As.length = na) (hrm : RmOk rm nL k n (fx_R F)) (ci q0 : Nat) {T : u_T} {N : Nat} (hc : vwCl[ci]? = some (C, T, N)) {fs : List Value} (he : (w m0)[q0]? = some (b, .inr (ci, fs)))
    (kk : ∀ (r : Int64) (m : M), post r m → XW F k n (w m) lv (pc + 3) (.long r :: rest)) : XW F k n (w m0) lv pc st0 := by
  intro H L ls hP hD hS hl
  have hFc := x_freeF hD hS h.2.2.2.2.2.2.1
  refine va_calll (va_runV (As := As) (rest := rest) ⟨h.1, h.2.1, h.2.2.1, h.2.2.2.1, h.2.2.2.2.1⟩ (hM H.size) (cwV na h.2.2.2.2.1 (good_all cw) rfl hrm.1.1 hrm.1.2 cw.2.2.2.2.2 hrm.2.1) ⟨fb_pre, va_recv h.2.2.2.2.2.1 hP hc he, fun U hU hW => ⟨rfl, by rw [hU], by rw [hU]; exact hP, va_K.moved hW.alike h.2.2.2.2.2.1, hD.weaken (fun _ _ _ _ => trivial)⟩⟩ rfl hna hl.1 hst (lv_room hrs) d hrm.2.2) hS (fun q _ hq => hFc q hq) hFc (fun r m t H1 locs ht hvm hw hB hz1 hk1 hS => ?_)
  obtain ⟨hP1, hK1, hD1⟩ := hB
  rw [ht] at hP1
  exact kk r m hw H1 locs ls hP1 (hD1.weaken (fun _ q _ hq => hFc _ hq)) hS hl
theorem x_callSL (h : FC F cc own tys) {post : Int64 → M → Prop} (cw : CWS own i y cy nL (some .long) na) (hM : KL (fx_l F) (fx_D F) tys w y cy nL rm As m0 post) (d : decode cc pc = .ok (.invokestatic i, 3)) (rest : List Value) (hst : st0 = As.reverse ++ rest) (hrs : (rest.map fun v => v.category).sum ≤ 8) (hna : As.length = na) (hrm : RmOk rm nL k n (fx_R F))
    (kk : ∀ (r : Int64) (m : M), post r m → XW F k n (w m) lv (pc + 3) (.long r :: rest)) : XW F k n (w m0) lv pc st0 := by
  intro H L ls hP hD hS hl
  have hFc := x_freeF hD hS h.2.2.2.2.2.2.1
  refine va_calll (va_runS (As := As) (rest := rest) ⟨h.1, h.2.1, h.2.2.1, h.2.2.2.1, h.2.2.2.2.1⟩ (hM H.size) (va_cwS na h.2.2.2.2.1 (good_allS cw) rfl hrm.1.1 hrm.1.2 cw.2.2.2.2 hrm.2.1) ⟨fb_pre, fun U hU hW => ⟨rfl, by rw [hU], by rw [hU]; exact hP, va_K.moved hW.alike h.2.2.2.2.2.1, hD.weaken (fun _ _ _ _ => trivial)⟩⟩ rfl hna hl.1 hst (lv_room hrs) d hrm.2.2) hS (fun q _ hq => hFc q hq) hFc (fun r m t H1 locs ht hvm hw hB hz1 hk1 hS => ?_)
  obtain ⟨hP1, hK1, hD1⟩ := hB
  rw [ht] at hP1
  exact kk r m hw H1 locs ls hP1 (hD1.weaken (fun _ q _ hq => hFc _ hq)) hS hl
theorem x_callVV (h : FC F cc own tys) {post : M → Prop} (cw : CWV own i C y cy nL (none) na) (hM : KV (fx_l F) (fx_D F) tys w y cy nL rm (.ref b :: As) m0 post) (d : decode cc pc = .ok (.invokevirtual i, 3)) (rest : List Value) (hst : st0 = As.reverse ++ .ref b :: rest) (hrs : (rest.map fun v => v.category).sum ≤ 8) (hna : As.length = na) (hrm : RmOk rm nL k n (fx_R F)) (ci q0 : Nat) {T : u_T} {N : Nat} (hc : vwCl[ci]? = some (C, T, N)) {fs : List Value} (he : (w m0)[q0]? = some (b, .inr (ci, fs)))
    (kk : ∀ (m : M), post m → XW F k n (w m) lv (pc + 3) rest) : XW F k n (w m0) lv pc st0 := by
  intro H L ls hP hD hS hl
  have hFc := x_freeF hD hS h.2.2.2.2.2.2.1
  refine va_callv (va_runV (As := As) (rest := rest) ⟨h.1, h.2.1, h.2.2.1, h.2.2.2.1, h.2.2.2.2.1⟩ (hM H.size) (cwV na h.2.2.2.2.1 (good_all cw) rfl hrm.1.1 hrm.1.2 cw.2.2.2.2.2 hrm.2.1) ⟨fb_pre, va_recv h.2.2.2.2.2.1 hP hc he, fun U hU hW => ⟨rfl, by rw [hU], by rw [hU]; exact hP, va_K.moved hW.alike h.2.2.2.2.2.1, hD.weaken (fun _ _ _ _ => trivial)⟩⟩ rfl hna hl.1 hst (lv_room hrs) d hrm.2.2) hS (fun q _ hq => hFc q hq) hFc (fun m t H1 locs ht hvm hw hB hz1 hk1 hS => ?_)
  obtain ⟨hP1, hK1, hD1⟩ := hB
  rw [ht] at hP1
  exact kk m hw H1 locs ls hP1 (hD1.weaken (fun _ q _ hq => hFc _ hq)) hS hl
theorem x_callSV (h : FC F cc own tys) {post : M → Prop} (cw : CWS own i y cy nL (none) na) (hM : KV (fx_l F) (fx_D F) tys w y cy nL rm As m0 post) (d : decode cc pc = .ok (.invokestatic i, 3)) (rest : List Value) (hst : st0 = As.reverse ++ rest) (hrs : (rest.map fun v => v.category).sum ≤ 8) (hna : As.length = na) (hrm : RmOk rm nL k n (fx_R F))
    (kk : ∀ (m : M), post m → XW F k n (w m) lv (pc + 3) rest) : XW F k n (w m0) lv pc st0 := by
  intro H L ls hP hD hS hl
  have hFc := x_freeF hD hS h.2.2.2.2.2.2.1
  refine va_callv (va_runS (As := As) (rest := rest) ⟨h.1, h.2.1, h.2.2.1, h.2.2.2.1, h.2.2.2.2.1⟩ (hM H.size) (va_cwS na h.2.2.2.2.1 (good_allS cw) rfl hrm.1.1 hrm.1.2 cw.2.2.2.2 hrm.2.1) ⟨fb_pre, fun U hU hW => ⟨rfl, by rw [hU], by rw [hU]; exact hP, va_K.moved hW.alike h.2.2.2.2.2.1, hD.weaken (fun _ _ _ _ => trivial)⟩⟩ rfl hna hl.1 hst (lv_room hrs) d hrm.2.2) hS (fun q _ hq => hFc q hq) hFc (fun m t H1 locs ht hvm hw hB hz1 hk1 hS => ?_)
  obtain ⟨hP1, hK1, hD1⟩ := hB
  rw [ht] at hP1
  exact kk m hw H1 locs ls hP1 (hD1.weaken (fun _ q _ hq => hFc _ hq)) hS hl
end Calls9
/-! static methods of numbers alone: an empty world -/
def w0 (_ : Unit) : va_W := []
section CallsN
variable {F : FX} {cc : ByteArray} {own : String} {tys : List (ClassId × FieldType)} {wd : va_W} {lv : List (Nat × Value)} {pc k n : Nat} {i : Nat} {y : MethodName} {cy : ByteArray} {nL : Nat} {na : Nat} {rm : Room} {As st0 : List Value}
theorem x_callN (h : FC F cc own tys) {r : Int32} {ty : FieldType} (cw : CWS own i y cy nL (some ty) na) (hM : KI (fx_l F) (fx_D F) tys w0 y cy nL ty rm As () (fun x u => x = r ∧ u = ())) (d : decode cc pc = .ok (.invokestatic i, 3)) (rest : List Value) (hst : st0 = As.reverse ++ rest) (hrs : (rest.map fun v => v.category).sum ≤ 8) (hna : As.length = na) (hrm : RmOk rm nL k n (fx_R F)) (kk : XW F k n wd lv (pc + 3) (.int r :: rest)) : XW F k n wd lv pc st0 := by
  intro H L ls hP hD hS hl
  have hA0 : ∀ q, va_A (w0 ()) H.size q → H.size ≤ q := by
    intro q hq
    rcases hq with ⟨k, e, hk⟩ | hq
    · cases hk
    · exact hq
  have hFc : ∀ q, va_A (w0 ()) H.size q → fx_A F q := fun q hq => h.2.2.2.2.2.2.1 q (Nat.le_trans hS.1 (hA0 q hq))
  refine va_calli (va_runS (As := As) (rest := rest) ⟨h.1, h.2.1, h.2.2.1, h.2.2.2.1, h.2.2.2.2.1⟩ (hM H.size) (va_cwS na h.2.2.2.2.1 (good_allS cw) rfl hrm.1.1 hrm.1.2 cw.2.2.2.2 hrm.2.1) ⟨fb_pre, fun U hU hW => ⟨rfl, by rw [hU], (fun k q hq => by cases hq), va_K.moved hW.alike h.2.2.2.2.2.1, ⟨(fun i j p q hi => by cases hi), (fun k q hq => by cases hq)⟩⟩⟩ rfl hna hl.1 hst (lv_room hrs) d hrm.2.2) hS (fun q _ hq => hFc q hq) hFc (fun r1 m t H1 locs ht hvm hw hB hz1 hk1 hS => ?_)
  obtain ⟨rfl, -⟩ := hw
  refine kk H1 locs ls (hP.kept (fun k q hq => hk1 q.1 (hP k q hq).lt (fun z => Nat.not_lt.mpr (hA0 _ z) (hP k q hq).lt))) hD hS hl
def CMm (own : String) (i : Nat) (y : MethodName) (cy : ByteArray) : Prop := Cond.methodLink own i y ∈ UU ∧ Cond.static y ∈ UU ∧ Cond.initialized "java/lang/Math" ∈ UU ∧ Cond.code y cy 2 (some .int) ∈ UU
theorem x_min (h : FC F cc own tys) (cw : CMm own i Lib.Math.min.name Lib.Math.min.code) (d : decode cc pc = .ok (.invokestatic i, 3)) {x z v : Int32} {rest : List Value} (hv : (if z < x then z else x) = v) (h1 : 1 ≤ (fx_R F).frames) (h2 : (rest.map fun v => v.category).sum + 13 ≤ (fx_R F).locals) (h3 : k ≤ (fx_R F).cells) (h4 : n ≤ (fx_R F).slots) (kk : XW F k n wd lv (pc + 3) (.int v :: rest)) : XW F k n wd lv pc (.int z :: .int x :: rest) := by
  intro H L ls hP hD hS hl
  subst hv
  exact va_mmin h.1 h.2.1 (by rw [h.2.2.1]; exact hl.1.symm) h.2.2.2.1 (h.2.2.2.2.1 _ cw.1) (h.2.2.2.2.1 _ cw.2.1) (h.2.2.2.2.1 _ cw.2.2.1) (h.2.2.2.2.1 _ cw.2.2.2) h1 h2 h3 h4 d (kk H L ls hP hD hS hl)
theorem x_max (h : FC F cc own tys) (cw : CMm own i Lib.Math.max.name Lib.Math.max.code) (d : decode cc pc = .ok (.invokestatic i, 3)) {x z v : Int32} {rest : List Value} (hv : (if x < z then z else x) = v) (h1 : 1 ≤ (fx_R F).frames) (h2 : (rest.map fun v => v.category).sum + 13 ≤ (fx_R F).locals) (h3 : k ≤ (fx_R F).cells) (h4 : n ≤ (fx_R F).slots) (kk : XW F k n wd lv (pc + 3) (.int v :: rest)) : XW F k n wd lv pc (.int z :: .int x :: rest) := by
  intro H L ls hP hD hS hl
  subst hv
  exact va_mmax h.1 h.2.1 (by rw [h.2.2.1]; exact hl.1.symm) h.2.2.2.1 (h.2.2.2.2.1 _ cw.1) (h.2.2.2.2.1 _ cw.2.1) (h.2.2.2.2.1 _ cw.2.2.1) (h.2.2.2.2.1 _ cw.2.2.2) h1 h2 h3 h4 d (kk H L ls hP hD hS hl)
end CallsN
