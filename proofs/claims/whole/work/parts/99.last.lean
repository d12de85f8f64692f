/-! a method keeps what lies beside its world -/
theorem at_l {L X : va_W} {i : Nat} {p : Nat × va_E} (h : L[i]? = some p) : (L ++ X)[i]? = some p := by
  rw [List.getElem?_append_left (List.getElem?_eq_some_iff.mp h).1]; exact h
theorem at_r {L X : va_W} {j : Nat} {p : Nat × va_E} (h : X[j]? = some p) : (L ++ X)[L.length + j]? = some p := by
  rw [List.getElem?_append_right (Nat.le_add_right _ _), Nat.add_sub_cancel_left]; exact h
theorem vaA_mid {L R W0 : va_W} {sz q : Nat} (h : va_A W0 sz q) : va_A (L ++ (W0 ++ R)) sz q := by
  rcases h with ⟨k, e, hk⟩ | h
  · exact Or.inl ⟨_, e, at_r (at_l hk)⟩
  · exact Or.inr h
theorem fr_P0 {D : va_G} {cl : List vw_C} {L R W0 : va_W} {H : Heap} (h : va_P D cl (L ++ (W0 ++ R)) H) : va_P D cl L H ∧ va_P D cl W0 H ∧ va_P D cl R H := ⟨fun k q hk => h k q (at_l hk), fun k q hk => h _ q (at_r (at_l hk)), fun k q hk => h _ q (at_r (at_r hk))⟩
theorem fr_D0 {A : Nat → Prop} {L R W0 : va_W} (h : va_D A (L ++ (W0 ++ R))) : va_D A L ∧ va_D A W0 ∧ va_D A R := by
  refine ⟨⟨fun i j p q hi hj e => h.1 i j p q (at_l hi) (at_l hj) e, fun k q hk => h.2 k q (at_l hk)⟩, ⟨fun i j p q hi hj e => ?_, fun k q hk => h.2 _ q (at_r (at_l hk))⟩, ⟨fun i j p q hi hj e => ?_, fun k q hk => h.2 _ q (at_r (at_r hk))⟩⟩
  · have := h.1 _ _ p q (at_r (L := L) (at_l (X := R) hi)) (at_r (L := L) (at_l (X := R) hj)) e
    omega
  · have := h.1 _ _ p q (at_r (L := L) (at_r (L := W0) hi)) (at_r (L := L) (at_r (L := W0) hj)) e
    omega
theorem fr_core {D : va_G} {cl : List vw_C} {A : Nat → Prop} {L R W0 W1 : va_W} {H H1 : Heap} (hP : va_P D cl (L ++ (W0 ++ R)) H) (hD : va_D A (L ++ (W0 ++ R))) (hP1 : va_P D cl W1 H1) (hD1 : va_D (va_A W0 H.size) W1) (hk : ∀ q : Nat, q < H.size → ¬ va_A W0 H.size q → H1[q]? = H[q]?) :
    va_P D cl (L ++ (W1 ++ R)) H1 ∧ va_D (va_A (L ++ (W0 ++ R)) H.size) (L ++ (W1 ++ R)) := by
  obtain ⟨pL, p0, pR⟩ := fr_P0 hP
  obtain ⟨dL, d0, dR⟩ := fr_D0 hD
  have nL : ∀ (i : Nat) (p : Nat × va_E), L[i]? = some p → ¬ va_A W0 H.size p.1 := by
    intro i p hi hq
    rcases hq with ⟨k, e, hk⟩ | hq
    · have h1 := hD.1 _ _ _ _ (at_l (X := W0 ++ R) hi) (at_r (L := L) (at_l (X := R) hk)) rfl
      have h2 := (List.getElem?_eq_some_iff.mp hi).1
      omega
    · exact absurd (pL i p hi).lt (Nat.not_lt.mpr hq)
  have nR : ∀ (i : Nat) (p : Nat × va_E), R[i]? = some p → ¬ va_A W0 H.size p.1 := by
    intro i p hi hq
    rcases hq with ⟨k, e, hk⟩ | hq
    · have h1 := hD.1 _ _ _ _ (at_r (L := L) (at_r (L := W0) hi)) (at_r (L := L) (at_l (X := R) hk)) rfl
      have h2 := (List.getElem?_eq_some_iff.mp hk).1
      omega
    · exact absurd (pR i p hi).lt (Nat.not_lt.mpr hq)
  refine ⟨(pL.kept (fun k q hq => hk q.1 (pL k q hq).lt (nL k q hq))).app (hP1.app (pR.kept (fun k q hq => hk q.1 (pR k q hq).lt (nR k q hq)))), ?_⟩
  refine va_D.app ⟨dL.1, fun k q hq => va_A.in (at_l hq)⟩ (va_D.app (hD1.weaken (fun _ _ _ h => vaA_mid h)) ⟨dR.1, fun k q hq => va_A.in (at_r (at_r hq))⟩ (fun i j p q hi hj e => ?_)) (fun i j p q hi hj e => ?_)
  · exact nR j q hj (e ▸ hD1.2 i p hi)
  · by_cases z : j < W1.length
    · rw [List.getElem?_append_left z] at hj
      exact nL i p hi (e ▸ hD1.2 j q hj)
    · rw [List.getElem?_append_right (by omega)] at hj
      have h1 := hD.1 _ _ _ _ (at_l (X := W0 ++ R) hi) (at_r (L := L) (at_r (L := W0) hj)) e
      have h2 := (List.getElem?_eq_some_iff.mp hi).1
      omega
section Fr
variable {l : Launch} {D : va_G} {tys : List (ClassId × FieldType)} {M : Type} {w : M → va_W} {y : MethodName} {cc : ByteArray} {nL : Nat} {rm : Room} {av : List Value} {m0 : M}
theorem KI.fr {ty : FieldType} {post : Int32 → M → Prop} (L R : va_W) (h : KI l D tys w y cc nL ty rm av m0 post) : KI l D tys (fun m => L ++ (w m ++ R)) y cc nL ty rm av m0 post := by
  intro sz p e h1 h2 h3 s m args below h4 h5 hP h6
  obtain ⟨rfl, rfl, hPw, hKs, hD⟩ := hP
  obtain ⟨n, o, a1, a2, a3, ⟨⟨r, u, ho, hpost, hB1, hB2, hB3⟩, hF⟩, Ls, hE, hL⟩ := h s.heap.size p e h1 h2 h3 s m _ below h4 h5 ⟨rfl, rfl, (fr_P0 hPw).2.1, hKs, (fr_D0 hD).2.1⟩ h6
  have g := fr_core hPw hD hB1 hB3 hF.2
  exact ⟨n, o, a1, a2, a3, ⟨⟨r, u, ho, hpost, g.1, hB2, g.2⟩, hF.1, fun q hq hn => hF.2 q hq (fun z => hn (vaA_mid z))⟩, Ls, hE, fun q hq => vaA_mid (hL q hq)⟩
theorem KL.fr {post : Int64 → M → Prop} (L R : va_W) (h : KL l D tys w y cc nL rm av m0 post) : KL l D tys (fun m => L ++ (w m ++ R)) y cc nL rm av m0 post := by
  intro sz p e h1 h2 h3 s m args below h4 h5 hP h6
  obtain ⟨rfl, rfl, hPw, hKs, hD⟩ := hP
  obtain ⟨n, o, a1, a2, a3, ⟨⟨r, u, ho, hpost, hB1, hB2, hB3⟩, hF⟩, Ls, hE, hL⟩ := h s.heap.size p e h1 h2 h3 s m _ below h4 h5 ⟨rfl, rfl, (fr_P0 hPw).2.1, hKs, (fr_D0 hD).2.1⟩ h6
  have g := fr_core hPw hD hB1 hB3 hF.2
  exact ⟨n, o, a1, a2, a3, ⟨⟨r, u, ho, hpost, g.1, hB2, g.2⟩, hF.1, fun q hq hn => hF.2 q hq (fun z => hn (vaA_mid z))⟩, Ls, hE, fun q hq => vaA_mid (hL q hq)⟩
end Fr
