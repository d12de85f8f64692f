/-! the law's own two methods, that catch -/
theorem KX.fr {l : Launch} {D : va_G} {tys : List (ClassId × FieldType)} {M : Type} {w : M → va_W} {y : MethodName} {cc : ByteArray} {nL : Nat} {rm : Room} {av : List Value} {sa : Nat → Nat} {m0 : M} {post : Int64 → M → Prop} {px : String → Prop} (L R : va_W) (h : KX l D tys w y cc nL rm av sa m0 post px) : KX l D tys (fun m => L ++ (w m ++ R)) y cc nL rm av sa m0 post px := by
  intro sz p e h1 h2 h3 s m args below h4 h5 hP h6
  obtain ⟨rfl, rfl, hPw, hKs, hD, hX⟩ := hP
  obtain ⟨n, o, a1, a2, a3, hQ⟩ := h s.heap.size p e h1 h2 h3 s m _ below h4 h5 ⟨rfl, rfl, (fr_P0 hPw).2.1, hKs, (fr_D0 hD).2.1, hX.at (State.WarmedH.refl s) (fun _ _ _ => rfl) (fun _ z => vaA_mid z)⟩ h6
  refine ⟨n, o, a1, a2, a3, ?_⟩
  rcases hQ with ⟨⟨⟨r, u, ho, hpost, hB1, hB2, hB3⟩, hF⟩, Ls, hE, hL⟩ | ⟨q, ho, E, ce, Ls, ⟨u, hu, ⟨hpx, hB1, hB2, hB3⟩, hF⟩, g2, g3, g4, g5, g6, g7⟩
  · have g := fr_core hPw hD hB1 hB3 hF.2
    exact Or.inl ⟨⟨⟨r, u, ho, hpost, g.1, hB2, g.2⟩, hF.1, fun q hq hn => hF.2 q hq (fun z => hn (vaA_mid z))⟩, Ls, hE, fun q hq => vaA_mid (hL q hq)⟩
  · have g := fr_core hPw hD hB1 hB3 hF.2
    exact Or.inr ⟨q, ho, E, ce, Ls, ⟨u, hu, ⟨hpx, g.1, hB2, g.2⟩, hF.1, fun q hq hn => hF.2 q hq (fun z => hn (vaA_mid z))⟩, g2, g3, g4, g5, g6, fun z hz => vaA_mid (g7 z hz)⟩
/-- q of class E is thrown over the frame -/
def XE (F : FX) (k n : Nat) (wd : va_W) (lv : List (Nat × Value)) (pc : Nat) (rest : List Value) (E : String) : Prop :=
  ∀ (H : Heap) (locs : List Loc) (ls : Array Slot) (ce : Cell) (q : Addr), va_P (fx_D F) vwCl wd H → va_D (fx_A F) wd → va_S (fx_A F) (fx_s F).heap H locs → lv_has ls (fx_n F) lv → H[q]? = some ce → ce.vm = .none → (fx_s F).vm.findClass E = some ce.cls →
    vx_W (fx_p F) (fx_l F) (fx_e F) (fx_R F) (fx_s F) (fx_m F) (fx_a F) (fx_b F) (fx_M F) (fx_c F) H locs k n (fx_Q F) (F0 (fx_m F) pc ls rest) q
def RmT (rm : Room) (nL k n : Nat) (R : Room) : Prop := (rm.cells = 1 ∧ rm.slots = 6) ∧ (rm.frames + 1 ≤ R.frames ∧ 8 + (nL + 11) + rm.locals ≤ R.locals) ∧ (k + 1 ≤ R.cells ∧ n + 6 ≤ R.slots)
section CallX
variable {F : FX} {cc : ByteArray} {own : String} {tys : List (ClassId × FieldType)} {M : Type} {w : M → va_W} {lv : List (Nat × Value)} {pc k n : Nat} {i : Nat} {C : String} {y : MethodName} {cy : ByteArray} {nL : Nat} {na : Nat} {rm : Room} {m0 : M} {b : Nat} {As st0 : List Value} {sa : Nat → Nat}
theorem x_callVX (h : FC F cc own tys) {post : Int64 → M → Prop} {px : String → Prop} (cw : CWV own i C y cy nL (some .long) na) (hM : KX (fx_l F) (fx_D F) tys w y cy nL rm (.ref b :: As) sa m0 post px) (hX : TX9 sa (fx_A F) (fx_s F) (fx_s F).heap) (d : decode cc pc = .ok (.invokevirtual i, 3)) (rest : List Value) (hst : st0 = As.reverse ++ .ref b :: rest) (hrs : (rest.map fun v => v.category).sum ≤ 8) (hna : As.length = na) (hrm : RmT rm nL k n (fx_R F)) (ci q0 : Nat) {T : u_T} {N : Nat} (hc : vwCl[ci]? = some (C, T, N)) {fs : List Value} (he : (w m0)[q0]? = some (b, .inr (ci, fs)))
    (kx : ∀ E : String, px E → XE F (k + 1) (n + 6) (w m0) lv pc rest E)
    (kk : ∀ (r : Int64) (m : M), post r m → XW F (k + 1) (n + 6) (w m) lv (pc + 3) (.long r :: rest)) : XW F k n (w m0) lv pc st0 := by
  intro H L ls hP hD hS hl
  have hFc := x_freeF hD hS h.2.2.2.2.2.2.1
  refine vx_calll (vx_runV (As := As) (rest := rest) ⟨h.1, h.2.1, h.2.2.1, h.2.2.2.1, h.2.2.2.2.1⟩ (hM H.size) (cwV na h.2.2.2.2.1 (good_all cw) rfl hrm.1.1 hrm.1.2 cw.2.2.2.2.2 hrm.2.1) ⟨fb_preX, va_recv h.2.2.2.2.2.1 hP hc he, fun U hU hW => ⟨rfl, by rw [hU], by rw [hU]; exact hP, va_K.moved hW.alike h.2.2.2.2.2.1, hD.weaken (fun _ _ _ _ => trivial), by rw [hU]; exact hX.at hW hS.2.1 hFc⟩⟩ rfl hna hl.1 hst (lv_room hrs) d hrm.2.2) hS (fun q _ hq => hFc q hq) hFc (fun q _ hq => hFc q hq)
    (fun E ce q9 u t H1 locs ht hvm hu hB hz1 hk1 hS h1 h2 h3 => ?_) (fun r m t H1 locs ht hvm hw hB hz1 hk1 hS => ?_)
  · obtain ⟨hpx, hP1, hK1, hD1⟩ := hB
    rw [ht] at hP1
    exact kx E hpx H1 locs ls ce q9 hP1 (hD1.weaken (fun _ q _ hq => hFc _ hq)) hS hl h1 h2 h3
  · obtain ⟨hP1, hK1, hD1⟩ := hB
    rw [ht] at hP1
    exact kk r m hw H1 locs ls hP1 (hD1.weaken (fun _ q _ hq => hFc _ hq)) hS hl
theorem x_catch (h : FC F cc own tys) {wd : va_W} {rest : List Value} {E name : String} (pre : List ExceptionTableEntry) (x : ExceptionTableEntry) (suf : List ExceptionTableEntry) (hsplit : (fx_c F).exceptionTable.toList = pre ++ x :: suf)
    (hpass : ∀ z ∈ pre, covers z pc = false ∨ (z.catchType ≠ 0 ∧ ∃ nm : String, (Cond.classLink own z.catchType nm).before (fx_a F) (fx_s F) = true ∧ va_Nc E nm (fx_s F))) (hx : covers x pc = true) (h0 : x.catchType ≠ 0)
    (hlink : Cond.classLink own x.catchType name ∈ UU) (hcast : va_Nw (.castable E name) (fx_s F)) (kk : ∀ q : Nat, XW F k n wd lv x.handlerPc [.ref q]) : XE F k n wd lv pc rest E := by
  intro H locs ls ce q hP hD hS hl h1 h2 h3
  exact vx_catch h.2.2.2.1 pre x suf hsplit hpass hx h0 (h.2.2.2.2.1 _ hlink) (va_Nw.use rfl hcast) h1 h2 h3 (kk q H locs ls hP hD hS hl)
end CallX
/-- a static method with a table, that makes at most one exception -/
def KW (l : Launch) (D : va_G) (tys : List (ClassId × FieldType)) {M : Type} (w : M → va_W) (y : MethodName) (cc : ByteArray) (nL : Nat) (hh : List (Nat × Nat × Nat × Nat)) (rm : Room) (av : List Value) (sa : Nat → Nat) (m0 : M) (post : Int32 → M → Prop) : Prop :=
  ∀ sz : Nat, Met l y (Cond.codeWith y cc nL (some .int) hh :: UU) rm (KPreX D tys (w m0) av sa sz) (va_Qi post (KB D tys w (va_A (w m0) sz)) (va_A (w m0) sz)) 1 6 (va_A (w m0) sz)
def RI6 (F : FX) (tys : List (ClassId × FieldType)) {M : Type} (w : M → va_W) (post : Int32 → M → Prop) : Prop := (fx_M F).sig.returnType = some .int ∧ fx_Q F = MQ (fx_b F) (va_Qi post (KB (fx_D F) tys w (fx_A F)) (fx_A F)) (fx_a F) (fx_s F) 1 6 (fx_A F)
theorem x_iret6 {F : FX} {cc : ByteArray} {own : String} {tys : List (ClassId × FieldType)} {M : Type} {w : M → va_W} {lv : List (Nat × Value)} {pc : Nat} (h : FC F cc own tys) {post : Int32 → M → Prop} (hR : RI6 F tys w post) (d : decode cc pc = .ok (.ireturn, 1)) {r : Int32} {m : M} (hp : post r m) : XW F 1 6 (w m) lv pc [.int r] := by
  intro H L ls hP hD hS hl
  obtain ⟨h1, h2⟩ := hR
  rw [h2]
  exact W.iret h.1 h.2.1 h1 (fun t ht hW => ⟨⟨r, m, rfl, hp, by rw [ht]; exact hP, va_K.moved hW.alike h.2.2.2.2.2.1, hD⟩, hS.F ht⟩) hS.2.2 d h.2.2.2.2.2.2.2
theorem x_enterW {l : Launch} {D : va_G} {tys : List (ClassId × FieldType)} {M : Type} {w : M → va_W} {y : MethodName} {cc : ByteArray} {nL : Nat} {hh : List (Nat × Nat × Nat × Nat)} {rm : Room} {av : List Value} {sa : Nat → Nat} {m0 : M} {post : Int32 → M → Prop} (hy : plainName y.cls = true) (hlen : (lg_sl av).length ≤ nL)
    (h : ∀ F : FX, fx_l F = l → fx_D F = D → fx_n F = nL → fx_R F = rm → FC F cc y.cls tys → RI6 F tys w post → (fx_c F).exceptionTable.toList = tableOf hh → TX9 sa (fx_A F) (fx_s F) (fx_s F).heap → XW F 0 0 (w m0) (lv_args 0 av) 0 []) : KW l D tys w y cc nL hh rm av sa m0 post := by
  intro sz
  refine MetFree.of_bodyS (code := cc) (maxLocals := nL) (ret := some .int) hy ?_ ?_
  · intro args s m h hn
    obtain ⟨m9, meth, c, hn9, h1, h2, h3, h4, -, h5, h6, -⟩ := Cond.codeWith_spec (atoms_spec (ws := Cond.codeWith y cc nL (some .int) hh :: UU) h _ List.mem_cons_self)
    cases hn.symm.trans hn9
    exact ⟨meth, c, h1, h2, h3, h4, h5, h6⟩
  · intro p e s m args below meth c s₁ B hml hv _
    have hh0 : s₁.heap = s.heap := by rw [B.state]; rfl
    obtain ⟨rfl, hsz, hP, hK, hD0, hX⟩ := hv
    have hts := atoms_spec (ws := Cond.codeWith y cc nL (some .int) hh :: UU) B.pre
    have hT := vx_table (x := y) B (hts _ List.mem_cons_self)
    subst hsz
    have hD := hD0.self (sz := s.heap.size)
    have hl := lv_entry av (n := nL) hlen
    have g := h (p, l, e, rm, s, m, av.toArray, below, meth, c, MQ below (va_Qi post (KB D tys w (va_A (w m0) s.heap.size)) (va_A (w m0) s.heap.size)) av.toArray s 1 6 (va_A (w m0) s.heap.size), va_A (w m0) s.heap.size, D, nL) rfl rfl rfl rfl
      ⟨B.exec, B.bytes, hml, findClass_of_methodNamed B.named, fun w hw => hts w (List.mem_cons_of_mem _ hw), hK, fun q hq => Or.inr hq, B.notSynchronized⟩ ⟨B.returns, rfl⟩ hT hX
    have g2 := g s.heap [] _ hP hD va_S.rf hl
    rw [← lg_entry_eq] at g2
    obtain ⟨t, a1, o, b1, b2, b3⟩ := g2 s₁ hh0 (Stand.of_body B)
    exact ⟨t, o, a1, b1, b2, b3⟩
theorem KW.fr {l : Launch} {D : va_G} {tys : List (ClassId × FieldType)} {M : Type} {w : M → va_W} {y : MethodName} {cc : ByteArray} {nL : Nat} {hh : List (Nat × Nat × Nat × Nat)} {rm : Room} {av : List Value} {sa : Nat → Nat} {m0 : M} {post : Int32 → M → Prop} (L R : va_W) (h : KW l D tys w y cc nL hh rm av sa m0 post) : KW l D tys (fun m => L ++ (w m ++ R)) y cc nL hh rm av sa m0 post := by
  intro sz p e h1 h2 h3 s m args below h4 h5 hP h6
  obtain ⟨rfl, rfl, hPw, hKs, hD, hX⟩ := hP
  obtain ⟨n, o, a1, a2, a3, ⟨⟨r, u, ho, hpost, hB1, hB2, hB3⟩, hF⟩, Ls, hE, hL⟩ := h s.heap.size p e h1 h2 h3 s m _ below h4 h5 ⟨rfl, rfl, (fr_P0 hPw).2.1, hKs, (fr_D0 hD).2.1, hX.at (State.WarmedH.refl s) (fun _ _ _ => rfl) (fun _ z => vaA_mid z)⟩ h6
  have g := fr_core hPw hD hB1 hB3 hF.2
  exact ⟨n, o, a1, a2, a3, ⟨⟨r, u, ho, hpost, g.1, hB2, g.2⟩, hF.1, fun q hq hn => hF.2 q hq (fun z => hn (vaA_mid z))⟩, Ls, hE, fun q hq => vaA_mid (hL q hq)⟩
def CSW (own : String) (i : Nat) (y : MethodName) (cy : ByteArray) (nL : Nat) (hh : List (Nat × Nat × Nat × Nat)) (na : Nat) : Prop := Cond.methodLink own i y ∈ UU ∧ Cond.static y ∈ UU ∧ Cond.initialized y.cls ∈ UU ∧ Cond.codeWith y cy nL (some .int) hh ∈ UU ∧ (y.cls ≠ "java/lang/invoke/MethodHandle" ∧ y.cls ≠ "java/lang/invoke/VarHandle" ∧ (parseMethodDescriptor y.desc).map (fun d => d.parameters.length) = some na)
theorem good_allW {own : String} {i : Nat} {y : MethodName} {cy : ByteArray} {nL : Nat} {hh : List (Nat × Nat × Nat × Nat)} {na : Nat} (h : CSW own i y cy nL hh na) : GoodIn UU (va_wsS own i y (Cond.codeWith y cy nL (some .int) hh :: UU)) := by
  obtain ⟨h1, h2, h3, h4, -⟩ := h
  intro w hw
  have hu : w ∈ UU := by
    rcases List.mem_append.mp hw with hw | hw
    · rcases List.mem_cons.mp hw with rfl | hw
      · exact h1
      rcases List.mem_cons.mp hw with rfl | hw
      · exact h2
      rcases List.mem_cons.mp hw with rfl | hw
      · exact h3
      cases hw
    · rcases List.mem_cons.mp hw with rfl | hw
      · exact h4
      · exact hw
  exact uu_good w hu
theorem x_callSW {F : FX} {cc : ByteArray} {own : String} {tys : List (ClassId × FieldType)} {M : Type} {w : M → va_W} {lv : List (Nat × Value)} {pc k n : Nat} {i : Nat} {y : MethodName} {cy : ByteArray} {nL : Nat} {na : Nat} {rm : Room} {m0 : M} {As st0 : List Value} {sa : Nat → Nat} {hh : List (Nat × Nat × Nat × Nat)}
    (h : FC F cc own tys) {post : Int32 → M → Prop} (cw : CSW own i y cy nL hh na) (hM : KW (fx_l F) (fx_D F) tys w y cy nL hh rm As sa m0 post) (hX : TX9 sa (fx_A F) (fx_s F) (fx_s F).heap) (d : decode cc pc = .ok (.invokestatic i, 3)) (rest : List Value) (hst : st0 = As.reverse ++ rest) (hrs : (rest.map fun v => v.category).sum ≤ 8) (hna : As.length = na) (hrm : RmT rm nL k n (fx_R F))
    (kk : ∀ (r : Int32) (m : M), post r m → XW F (k + 1) (n + 6) (w m) lv (pc + 3) (.int r :: rest)) : XW F k n (w m0) lv pc st0 := by
  intro H L ls hP hD hS hl
  have hFc := x_freeF hD hS h.2.2.2.2.2.2.1
  refine va_calli (vx_runSW (hh := hh) (As := As) (rest := rest) ⟨h.1, h.2.1, h.2.2.1, h.2.2.2.1, h.2.2.2.2.1⟩ (hM H.size) (vx_cwSW na h.2.2.2.2.1 (good_allW cw) rfl hrm.1.1 hrm.1.2 cw.2.2.2.2 hrm.2.1) ⟨fb_preX, fun U hU hW => ⟨rfl, by rw [hU], by rw [hU]; exact hP, va_K.moved hW.alike h.2.2.2.2.2.1, hD.weaken (fun _ _ _ _ => trivial), by rw [hU]; exact hX.at hW hS.2.1 hFc⟩⟩ rfl hna hl.1 hst (lv_room hrs) d hrm.2.2) hS (fun q _ hq => hFc q hq) hFc (fun r m t H1 locs ht hvm hw hB hz1 hk1 hS => ?_)
  obtain ⟨hP1, hK1, hD1⟩ := hB
  rw [ht] at hP1
  exact kk r m hw H1 locs ls hP1 (hD1.weaken (fun _ q _ hq => hFc _ hq)) hS hl
