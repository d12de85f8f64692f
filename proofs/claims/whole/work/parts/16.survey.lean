/-! the survey -/
theorem llx_iff {A : Nat → Nat} {s : Nat → Int} {c : Int} : ∀ {m : Nat}, llx A s m ≤ c ↔ (-6 ≤ c ∧ ∀ q, q < m → A q = 1 → s q < c)
  | 0 => by simp [llx]
  | m + 1 => by
    have ih := llx_iff (A := A) (s := s) (c := c) (m := m)
    have e : (∀ q, q < m + 1 → A q = 1 → s q < c) ↔ (∀ q, q < m → A q = 1 → s q < c) ∧ (A m = 1 → s m < c) := by
      constructor
      · intro h; exact ⟨fun q hq => h q (by omega), h m (by omega)⟩
      · intro h q hq
        rcases Nat.lt_succ_iff_lt_or_eq.mp hq with h1 | h1
        · exact h.1 q h1
        · rw [h1]; exact h.2
    rw [e, ← and_assoc, ← ih]
    simp only [llx]
    split
    · rename_i h1; simp only [h1, true_imp_iff]; omega
    · rename_i h1; simp [h1]
theorem glx_iff {A : Nat → Nat} {s : Nat → Int} {c : Int} : ∀ {m : Nat}, c ≤ glx A s m ↔ (c ≤ 6 ∧ ∀ q, q < m → A q = 2 → c ≤ s q)
  | 0 => by simp [glx]
  | m + 1 => by
    have ih := glx_iff (A := A) (s := s) (c := c) (m := m)
    have e : (∀ q, q < m + 1 → A q = 2 → c ≤ s q) ↔ (∀ q, q < m → A q = 2 → c ≤ s q) ∧ (A m = 2 → c ≤ s m) := by
      constructor
      · intro h; exact ⟨fun q hq => h q (by omega), h m (by omega)⟩
      · intro h q hq
        rcases Nat.lt_succ_iff_lt_or_eq.mp hq with h1 | h1
        · exact h.1 q h1
        · rw [h1]; exact h.2
    rw [e, ← and_assoc, ← ih]
    simp only [glx]
    split
    · rename_i h1; simp only [h1, true_imp_iff]; omega
    · rename_i h1; simp [h1]
def lo9 (A : Nat → Nat) (t : Nat) : Int := llx A (sm t) 16
def hi9 (A : Nat → Nat) (t : Nat) : Int := glx A (sm t) 16
theorem okp_iff {A : Nat → Nat} (hA : ∀ q, q < 16 → A q ≤ 2) {t e : Nat} (he : e < 13) : okp A t (ce e) = true ↔ (lo9 A t ≤ ce e ∧ ce e ≤ hi9 A t) := by
  unfold lo9 hi9
  rw [llx_iff, glx_iff]
  unfold okp
  rw [allN_iff]
  simp only [decide_eq_true_eq]
  have h1 : -6 ≤ ce e ∧ ce e ≤ 6 := by unfold ce; omega
  constructor
  · intro h
    refine ⟨⟨h1.1, fun q hq ha => ?_⟩, ⟨h1.2, fun q hq ha => ?_⟩⟩
    · rcases h q hq with h2 | h2
      · omega
      · rw [ha] at h2
        by_cases h3 : ce e ≤ sm t q
        · rw [if_pos h3] at h2; omega
        · omega
    · rcases h q hq with h2 | h2
      · omega
      · rw [ha] at h2
        by_cases h3 : ce e ≤ sm t q
        · exact h3
        · rw [if_neg h3] at h2; omega
  · intro h q hq
    have h2 := hA q hq
    rcases (show A q = 0 ∨ A q = 1 ∨ A q = 2 by omega) with h3 | h3 | h3
    · exact Or.inl h3
    · right
      have := h.1.2 q hq h3
      rw [if_neg (by omega), h3]
    · right
      have := h.2.2 q hq h3
      rw [if_pos (by omega), h3]
theorem cnt_iv (lo hi : Int) (h : -6 ≤ lo) : ∀ m : Nat, sumN (fun e => if lo ≤ ce e ∧ ce e ≤ hi then 1 else 0) m = (min hi ((m : Int) - 7) - lo + 1).toNat
  | 0 => by
    show 0 = _
    omega
  | m + 1 => by
    show sumN _ m + (if lo ≤ ce m ∧ ce m ≤ hi then 1 else 0) = _
    rw [cnt_iv lo hi h m]
    unfold ce
    split <;> omega
def ctT (A : Nat → Nat) (t : Nat) : Nat := sumN (fun e => if okp A t (ce e) then 1 else 0) 13
def coT (A : Nat → Nat) (q t : Nat) : Nat := sumN (fun e => if okp A t (ce e) && decide (ce e ≤ sm t q) then 1 else 0) 13
theorem ctT_eq {A : Nat → Nat} (hA : ∀ q, q < 16 → A q ≤ 2) {t : Nat} (ht : t < 2401) : ctT A t = (hi9 A t - lo9 A t + 1).toNat := by
  have h1 := llx_b (A := A) (fun q => (sm_b t ht q).2) 16
  have h2 := glx_b (A := A) (fun q => (sm_b t ht q).1) 16
  have h3 : ctT A t = sumN (fun e => if lo9 A t ≤ ce e ∧ ce e ≤ hi9 A t then 1 else 0) 13 := sumN_congr (fun e he => by
    by_cases h : okp A t (ce e) = true
    · rw [if_pos h, if_pos ((okp_iff hA he).mp h)]
    · rw [if_neg h, if_neg (fun q => h ((okp_iff hA he).mpr q))])
  rw [h3, cnt_iv _ _ (by unfold lo9; omega)]
  unfold lo9 hi9
  omega
theorem coT_eq {A : Nat → Nat} (hA : ∀ q, q < 16 → A q ≤ 2) {t : Nat} (ht : t < 2401) (q : Nat) : coT A q t = (min (hi9 A t) (sm t q) - lo9 A t + 1).toNat := by
  have h1 := llx_b (A := A) (fun q => (sm_b t ht q).2) 16
  have h2 := glx_b (A := A) (fun q => (sm_b t ht q).1) 16
  have h3 : coT A q t = sumN (fun e => if lo9 A t ≤ ce e ∧ ce e ≤ min (hi9 A t) (sm t q) then 1 else 0) 13 := sumN_congr (fun e he => by
    by_cases h : okp A t (ce e) = true
    · have h4 := (okp_iff hA he).mp h
      rw [h, Bool.true_and]
      by_cases h5 : ce e ≤ sm t q
      · rw [if_pos (by simpa using h5), if_pos (by omega)]
      · rw [if_neg (by simpa using h5), if_neg (by omega)]
    · have h4 : ¬ (lo9 A t ≤ ce e ∧ ce e ≤ hi9 A t) := fun q => h ((okp_iff hA he).mpr q)
      rw [Bool.not_eq_true] at h
      rw [h, Bool.false_and, if_neg (by simp), if_neg (by omega)])
  rw [h3, cnt_iv _ _ (by unfold lo9; omega)]
  unfold lo9 hi9
  omega
theorem ff_le (p : Nat → Bool) : ∀ m, ff p m ≤ m
  | 0 => Nat.le_refl _
  | m + 1 => by
    have := ff_le p m
    simp only [ff]
    split
    · omega
    · split <;> omega
theorem ff_keep {p : Nat → Bool} {m : Nat} (h : ff p m < m) : ∀ j, ff p (m + j) = ff p m
  | 0 => rfl
  | j + 1 => by
    have ih := ff_keep h j
    show (if ff p (m + j) < m + j then ff p (m + j) else _) = _
    rw [ih, if_pos (by omega)]
theorem ff_none {p : Nat → Bool} : ∀ {m : Nat}, (∀ x, x < m → p x = false) → ff p m = m
  | 0, _ => rfl
  | m + 1, h => by
    simp only [ff]
    rw [ff_none (m := m) (fun x hx => h x (by omega)), if_neg (by omega), h m (by omega)]
    simp
theorem ff_at {p : Nat → Bool} {m j : Nat} (h : ∀ x, x < m → p x = false) (hp : p m = true) : ff p (m + 1 + j) = m := by
  have h1 : ff p (m + 1) = m := by
    simp only [ff]
    rw [ff_none h, if_neg (by omega), hp]
    simp
  rw [ff_keep (by rw [h1]; omega), h1]
theorem ff_some {p : Nat → Bool} : ∀ {m x : Nat}, x < m → p x = true → ff p m < m
  | m + 1, x, hx, hp => by
    by_cases h : x = m
    · subst h
      have := ff_le p x
      simp only [ff]
      rw [hp]
      simp only [if_true]
      split <;> omega
    · have := ff_some (p := p) (m := m) (x := x) (by omega) hp
      rw [ff_keep this 1]
      omega
def plcx (A : Nat → Nat) (i : Nat) : Nat := sumN (ctT A) i
def plox (A : Nat → Nat) (q i : Nat) : Nat := sumN (coT A q) i
def px9 (A : Nat → Nat) (x : Nat) : Bool := okp A (x / 13) (ce (x % 13))
def plfx (A : Nat → Nat) (i j : Nat) : Int := if j < 4 then wv (ff (px9 A) (i * 13) / 13) j else ce (ff (px9 A) (i * 13) % 13)
theorem sumN_pos {f : Nat → Nat} {i : Nat} : ∀ {m : Nat}, i < m → 0 < f i → 0 < sumN f m
  | m + 1, hi, hf => by
    show 0 < sumN f m + f m
    by_cases h : i = m
    · subst h; omega
    · have := sumN_pos (m := m) (by omega) hf
      omega
theorem sumN_zero {f : Nat → Nat} {m : Nat} (h : sumN f m = 0) (i : Nat) (hi : i < m) : f i = 0 := by
  rcases Nat.eq_zero_or_pos (f i) with q | q
  · exact q
  · have := sumN_pos hi q; omega
theorem sumN_le {f g : Nat → Nat} : ∀ {m : Nat}, (∀ i, i < m → f i ≤ g i) → sumN f m ≤ sumN g m
  | 0, _ => Nat.le_refl _
  | m + 1, h => by
    have h1 := sumN_le (m := m) (fun i hi => h i (by omega))
    have h2 := h m (by omega)
    show sumN f m + f m ≤ sumN g m + g m
    omega
theorem sumN_const (c : Nat) : ∀ m : Nat, sumN (fun _ => c) m = c * m
  | 0 => rfl
  | m + 1 => by show sumN (fun _ => c) m + c = _; rw [sumN_const c m, Nat.mul_succ]
theorem ctT_le (A : Nat → Nat) (t : Nat) : ctT A t ≤ 13 := by
  have := sumN_le (f := fun e => if okp A t (ce e) then 1 else 0) (g := fun _ => 1) (m := 13) (fun i _ => by split <;> omega)
  rw [sumN_const] at this
  exact this
theorem plcx_le (A : Nat → Nat) (i : Nat) : plcx A i ≤ 13 * i := by
  have := sumN_le (f := ctT A) (g := fun _ => 13) (m := i) (fun j _ => ctT_le A j)
  rw [sumN_const] at this
  exact this
theorem coT_le (A : Nat → Nat) (q t : Nat) : coT A q t ≤ ctT A t := sumN_le (fun e _ => by
  cases okp A t (ce e) <;> cases decide (ce e ≤ sm t q) <;> simp)
theorem plo_le (A : Nat → Nat) (q : Nat) : plo A q ≤ plc A := sumN_le (fun t _ => coT_le A q t)
theorem plc_b (A : Nat → Nat) : plc A ≤ 31213 := plcx_le A 2401
theorem px_zero {A : Nat → Nat} {i : Nat} (h : plcx A i = 0) : ∀ x, x < i * 13 → px9 A x = false := by
  intro x hx
  have h1 := sumN_zero h (x / 13) (by omega)
  have h2 := sumN_zero h1 (x % 13) (by omega)
  unfold px9
  cases hq : okp A (x / 13) (ce (x % 13))
  · rfl
  · rw [hq] at h2; simp at h2
theorem px_pos {A : Nat → Nat} {i : Nat} (h : 0 < plcx A i) : ff (px9 A) (i * 13) < i * 13 := by
  by_cases q : ∃ x, x < i * 13 ∧ px9 A x = true
  · obtain ⟨x, hx, hp⟩ := q
    exact ff_some hx hp
  · exfalso
    have h1 : plcx A i ≤ 0 := by
      have := sumN_le (f := ctT A) (g := fun _ => 0) (m := i) (fun t ht => by
        have := sumN_le (f := fun e => if okp A t (ce e) then 1 else 0) (g := fun _ => 0) (m := 13) (fun e he => by
          rw [if_neg]
          · exact Nat.le_refl _
          · intro hok
            refine q ⟨t * 13 + e, by omega, ?_⟩
            unfold px9
            rw [show (t * 13 + e) / 13 = t by omega, show (t * 13 + e) % 13 = e by omega]
            exact hok)
        rw [sumN_const, Nat.zero_mul] at this
        exact this)
      rw [sumN_const, Nat.zero_mul] at this
      exact this
    omega
/-- memories that agree but for what a survey writes -/
def AgS (μ M : Me) : Prop := ∀ c j, c ≠ 19 → c ≠ 20 → c ≠ 21 → c ≠ 22 → ¬ (c = 0 ∧ (j = 5 ∨ j = 6)) → M c j = μ c j
theorem AgS.rf (μ : Me) : AgS μ μ := fun _ _ _ _ _ _ _ => rfl
theorem AgS.w {μ M : Me} {f g : Nat → Int32} (h : AgS μ M) : AgS μ (setc (setc M 21 f) 22 g) := fun c j h1 h2 h3 h4 h5 => by
  rw [setc_n h4, setc_n h3]; exact h c j h1 h2 h3 h4 h5
theorem AgS.c {μ M : Me} {f g : Nat → Int32} {v : Int32} (h : AgS μ M) : AgS μ (setc (up (setc M 19 f) 0 6 v) 20 g) := fun c j h1 h2 h3 h4 h5 => by
  rw [setc_n h2]
  by_cases h0 : c = 0
  · subst h0
    rw [up_j (by omega), setc_n h1]
    exact h 0 j h1 h2 h3 h4 h5
  · rw [up_c h0, setc_n h1]; exact h c j h1 h2 h3 h4 h5
theorem AgS.i {μ : Me} {g : Nat → Int32} {v w : Int32} : AgS μ (setc (up (up μ 0 5 v) 0 6 w) 20 g) := fun c j h1 h2 h3 h4 h5 => by
  rw [setc_n h2]
  by_cases h0 : c = 0
  · subst h0
    rw [up_j (by omega), up_j (by omega)]
  · rw [up_c h0, up_c h0]
def SvF (M : Me) (A : Nat → Nat) : Prop := M 0 6 = nI (plc A) ∧ (∀ q, q < 16 → M 20 q = nI (plo A q)) ∧ (0 < plc A → ∀ i, i < 5 → M 19 i = zI (plf A i))
def SvP (M : Me) (A : Nat → Nat) (i : Nat) : Prop := M 0 5 = nI 1 ∧ M 0 6 = nI (plcx A i) ∧ (∀ q, q < 16 → M 20 q = nI (plox A q i)) ∧ (0 < plcx A i → ∀ j, j < 5 → M 19 j = zI (plfx A i j))
theorem SvP.done {M : Me} {A : Nat → Nat} (h : SvP M A 2401) : M 0 5 = bz true ∧ SvF M A := ⟨h.1, h.2.1, h.2.2.1, h.2.2.2⟩
theorem plfx_keep {A : Nat → Nat} {t : Nat} (h : 0 < plcx A t) (j : Nat) : plfx A (t + 1) j = plfx A t j := by
  have h1 := px_pos h
  unfold plfx
  rw [show (t + 1) * 13 = t * 13 + 13 by omega, ff_keep h1]
theorem SvP.skip {M : Me} {A : Nat → Nat} {t : Nat} {f g : Nat → Int32} (hA : ∀ q, q < 16 → A q ≤ 2) (ht : t < 2401) (h : SvP M A t) (hlt : hi9 A t < lo9 A t) : SvP (setc (setc M 21 f) 22 g) A (t + 1) := by
  have e1 : plcx A (t + 1) = plcx A t := by
    show plcx A t + ctT A t = _
    rw [ctT_eq hA ht]; omega
  refine ⟨h.1, ?_, fun q hq => ?_, fun hp j hj => ?_⟩
  · rw [e1]; exact h.2.1
  · show M 20 q = nI (plox A q t + coT A q t)
    rw [coT_eq hA ht, show (min (hi9 A t) (sm t q) - lo9 A t + 1).toNat = 0 by omega]
    exact h.2.2.1 q hq
  · rw [e1] at hp
    rw [plfx_keep hp]
    exact h.2.2.2 hp j hj
theorem SvP.add {M : Me} {A : Nat → Nat} {t : Nat} {f g f2 g2 : Nat → Int32} (hA : ∀ q, q < 16 → A q ≤ 2) (ht : t < 2401) (h : SvP M A t) (hlt : lo9 A t ≤ hi9 A t) (hf : ∀ i, i < 4 → f i = zI (wv t i))
    (hf2 : (plcx A t = 0 → (∀ i, i < 4 → f2 i = f i) ∧ f2 4 = zI (lo9 A t)) ∧ (plcx A t ≠ 0 → f2 = M 19)) (hg2 : ∀ q, q < 16 → g2 q = nI (plox A q t + (min (hi9 A t) (sm t q) - lo9 A t + 1).toNat)) :
    SvP (setc (up (setc (setc (setc M 21 f) 22 g) 19 f2) 0 6 (nI (plcx A t + (hi9 A t - lo9 A t + 1).toNat))) 20 g2) A (t + 1) := by
  have b1 := llx_b (A := A) (fun q => (sm_b t ht q).2) 16
  have b2 := glx_b (A := A) (fun q => (sm_b t ht q).1) 16
  have e1 : plcx A (t + 1) = plcx A t + (hi9 A t - lo9 A t + 1).toNat := by
    show plcx A t + ctT A t = _
    rw [ctT_eq hA ht]
  refine ⟨h.1, ?_, fun q hq => ?_, fun hp j hj => ?_⟩
  · rw [e1]; rfl
  · show g2 q = nI (plox A q t + coT A q t)
    rw [coT_eq hA ht]
    exact hg2 q hq
  · show f2 j = _
    by_cases hz : plcx A t = 0
    · have h0 := px_zero hz
      obtain ⟨e, he⟩ : ∃ e : Nat, (e : Int) = lo9 A t + 6 := ⟨(lo9 A t + 6).toNat, by unfold lo9; omega⟩
      have he13 : e < 13 := by unfold lo9 at he; unfold hi9 lo9 at hlt; omega
      have hx : ff (px9 A) ((t + 1) * 13) = t * 13 + e := by
        rw [show (t + 1) * 13 = (t * 13 + e) + 1 + (12 - e) by omega]
        refine ff_at (fun x hx => ?_) ?_
        · by_cases hx2 : x < t * 13
          · exact h0 x hx2
          · have e2 : x / 13 = t := by omega
            unfold px9
            rw [e2]
            cases hq : okp A t (ce (x % 13)) with
            | false => rfl
            | true =>
              have := (okp_iff hA (by omega)).mp hq
              unfold ce at this
              omega
        · unfold px9
          rw [show (t * 13 + e) / 13 = t by omega, show (t * 13 + e) % 13 = e by omega]
          exact (okp_iff hA he13).mpr (by unfold ce; omega)
      obtain ⟨q1, q2⟩ := hf2.1 hz
      unfold plfx
      rw [hx, show (t * 13 + e) / 13 = t by omega, show (t * 13 + e) % 13 = e by omega]
      by_cases h4 : j < 4
      · rw [if_pos h4, q1 j h4, hf j h4]
      · rw [if_neg h4, show j = 4 by omega, q2]
        congr 1
        unfold ce; omega
    · rw [hf2.2 hz, plfx_keep (by omega)]
      exact h.2.2.2 (by omega) j hj
theorem SvP.init {μ : Me} {A : Nat → Nat} {g : Nat → Int32} (h : ∀ q, q < 16 → g q = nI 0) : SvP (setc (up (up μ 0 5 (nI 1)) 0 6 (nI 0)) 20 g) A 0 := ⟨rfl, rfl, fun q hq => h q hq, fun hp => absurd hp (by show ¬ 0 < 0; omega)⟩
def frt (A : Nat → Nat) (q : Nat) : Nat := if plc A = 0 then 3 else if plo A q = plc A then 1 else if plo A q = 0 then 0 else 2
def gr9 (A : Nat → Nat) (q : Nat) : Nat := max (plo A q) (plc A - plo A q)
def nb9 (A : Nat → Nat) : Nat → Option Nat
  | 0 => none
  | q + 1 => match nb9 A q with
    | none => if A q = 0 then some q else none
    | some b => if A q = 0 ∧ gr9 A q < gr9 A b then some q else some b
/-- the next question, or none -/
def nq9 (A : Nat → Nat) : Option Nat := if plc A = 0 then none else nb9 A 16
theorem nb9_n {A : Nat → Nat} {q : Nat} (h : nb9 A q = none) : nb9 A (q + 1) = if A q = 0 then some q else none := by
  simp only [nb9, h]
theorem nb9_s {A : Nat → Nat} {q b : Nat} (h : nb9 A q = some b) : nb9 A (q + 1) = if A q = 0 ∧ gr9 A q < gr9 A b then some q else some b := by
  simp only [nb9, h]
theorem gr9_b (A : Nat → Nat) (q : Nat) : gr9 A q ≤ 31213 := by
  have h1 := plo_le A q
  have h2 := plc_b A
  unfold gr9
  omega

set_option maxHeartbeats 4000000 in
set_option maxRecDepth 100000 in
theorem c_X4_survey {l : Launch} {D : va_G} {c : Nat → ClassId} {a : Nat → Nat} {μ : Me} {A : Nat → Nat} (hs16 : ∀ q, q < 16 → μ 16 q = bz (decide (A q ≠ 0))) (hs17 : ∀ q, q < 16 → A q ≠ 0 → μ 17 q = nI (A q - 1)) (hA : ∀ q, q < 16 → A q ≤ 2) (hsv : ∃ b : Bool, μ 0 5 = bz b ∧ (b = true → SvF μ A)) : KV l D (tyE c) (xw c a) yX4_survey cX4_survey 4 (rmL 3) [.ref (a 4)] μ (fun u => AgS μ u ∧ u 0 5 = bz true ∧ SvF u A) := by
  refine x_enterV (by decide) (Nat.le_of_ble_eq_true rfl) (fun F hl hD hn hRm hC hR => ?_)
  subst hl hD
  change XW F 0 0 (xw c a μ) [(0, .ref (a 4))] 0 []
  change FC F cX4_survey RX4 (tyE c) at hC
  obtain ⟨b, hb5, hbf⟩ := hsv
  refine x_aload_n hC 0 rfl dX4_survey_0 ?_
  refine x_get hC fl_X4_24 dX4_survey_1 4 rfl (v := .int (bz b)) (xv hb5) ?_
  refine x_if_eqB hC 8 dX4_survey_4 rfl (fun h4 => ?_) (fun h4 => ?_)
  · -- 4 T
    refine x_aload_n hC 0 rfl dX4_survey_8 ?_
    refine x_iconst hC (v := (nI 1)) dX4_survey_9 rfl ?_
    refine x_put hC fp_X4_24 dX4_survey_10 4 rfl rfl rfl (Nat.le_of_ble_eq_true rfl) (xw c a (up μ 0 5 (nI 1))) rfl ?_
    refine x_aload_n hC 0 rfl dX4_survey_13 ?_
    refine x_iconst hC (v := (nI 0)) dX4_survey_14 rfl ?_
    refine x_put hC fp_X4_28 dX4_survey_15 4 rfl rfl rfl (Nat.le_of_ble_eq_true rfl) (xw c a (up (up μ 0 5 (nI 1)) 0 6 (nI 0))) rfl ?_
    refine x_iconst hC (v := (nI 0)) dX4_survey_18 rfl ?_
    refine x_istore_n hC [(1, .int (nI 0)), (0, .ref (a 4))] rfl (lt_n hn rfl) dX4_survey_19 ?_
    refine x_lv [1, 0] rfl ?_
    have L20 : ∀ (N20 : Nat) (g : Nat → Int32) (i : Nat), 16 - i < N20 → (i ≤ 16) → (∀ q, q < i → g q = nI 0) → XW F 0 0 (xw c a (setc (up (up μ 0 5 (nI 1)) 0 6 (nI 0)) 20 g)) [(0, .ref (a 4)), (1, .int (nI i))] 20 [] := by
      intro N20
      induction N20 with
      | zero => intro g i hN20 hi hg; exact absurd hN20 (by omega)
      | succ N20 ih20 =>
        intro g i hN20 hi hg
        refine x_iload_n hC 1 rfl dX4_survey_20 ?_
        refine x_bipush hC (v := (nI 16)) dX4_survey_21 rfl ?_
        refine x_icmp_geN hC 39 dX4_survey_23 rfl (by omega) (by decide) (fun h23 => ?_) (fun h23 => ?_)
        · -- 23 T
          refine x_iconst hC (v := (nI 0)) dX4_survey_39 rfl ?_
          refine x_istore_n hC [(1, .int (nI 0)), (0, .ref (a 4))] rfl (lt_n hn rfl) dX4_survey_40 ?_
          refine x_lv [1, 0] rfl ?_
          have L41 : ∀ (N41 : Nat) (M : Me) (i : Nat), 2401 - i < N41 → (i ≤ 2401) → (AgS μ M) → (SvP M A i) → XW F 0 0 (xw c a M) [(0, .ref (a 4)), (1, .int (nI i))] 41 [] := by
            intro N41
            induction N41 with
            | zero => intro M i hN41 hi hag hsp; exact absurd hN41 (by omega)
            | succ N41 ih41 =>
              intro M i hN41 hi hag hsp
              have hM16 : ∀ q, q < 16 → M 16 q = bz (decide (A q ≠ 0)) := fun q hq => (hag 16 q (by decide) (by decide) (by decide) (by decide) (by omega)).trans (hs16 q hq)
              have hM17 : ∀ q, q < 16 → A q ≠ 0 → M 17 q = nI (A q - 1) := fun q hq hz => (hag 17 q (by decide) (by decide) (by decide) (by decide) (by omega)).trans (hs17 q hq hz)
              refine x_iload_n hC 1 rfl dX4_survey_41 ?_
              refine x_sipush hC (v := (nI 2401)) dX4_survey_42 rfl ?_
              refine x_icmp_geN hC 80 dX4_survey_45 rfl (by omega) (by decide) (fun h45 => ?_) (fun h45 => ?_)
              · -- 45 T
                exact x_vret hC hR dX4_survey_80 (⟨hag, (show i = 2401 by omega) ▸ hsp |>.done⟩)
              · -- 45 F
                refine x_aload_n hC 0 rfl dX4_survey_48 ?_
                refine x_iload_n hC 1 rfl dX4_survey_49 ?_
                refine x_callVV hC cw_X4_52 (c_X4_weigh (t := i)  (by omega)) dX4_survey_50 [] rfl (Nat.le_of_ble_eq_true rfl) rfl (rm_ok hRm (by decide) (by decide)) 4 4 rfl rfl (fun m50 hp50 => ?_)
                obtain ⟨f, g, rfl, hf, hg⟩ := hp50
                refine x_aload_n hC 0 rfl dX4_survey_53 ?_
                refine x_callVI hC cw_X4_56 (c_X4_leastLimit  (A := A) (s := (sm i)) hM16 hM17 hA hg (sm_b i (by omega))) dX4_survey_54 [] rfl (Nat.le_of_ble_eq_true rfl) rfl (rm_ok hRm (by decide) (by decide)) 4 4 rfl rfl (fun r54 m54 hp54 => ?_)
                obtain ⟨rfl, rfl⟩ := hp54
                refine x_istore_n hC [(2, .int (zI (llx A (sm i) 16))), (0, .ref (a 4)), (1, .int (nI i))] rfl (lt_n hn rfl) dX4_survey_57 ?_
                refine x_aload_n hC 1 rfl dX4_survey_58 ?_
                refine x_callVI hC cw_X4_60 (c_X4_greatestLimit  (A := A) (s := (sm i)) hM16 hM17 hA hg (sm_b i (by omega))) dX4_survey_59 [] rfl (Nat.le_of_ble_eq_true rfl) rfl (rm_ok hRm (by decide) (by decide)) 4 4 rfl rfl (fun r59 m59 hp59 => ?_)
                obtain ⟨rfl, rfl⟩ := hp59
                refine x_istore_n hC [(3, .int (zI (glx A (sm i) 16))), (2, .int (zI (llx A (sm i) 16))), (0, .ref (a 4)), (1, .int (nI i))] rfl (lt_n hn rfl) dX4_survey_62 ?_
                refine x_iload_n hC 1 rfl dX4_survey_63 ?_
                refine x_iload_n hC 0 rfl dX4_survey_64 ?_
                refine x_icmp_gtZ hC (a := (llx A (sm i) 16)) (b := (glx A (sm i) 16)) 74 dX4_survey_65 rfl (by have := llx_b (A := A) (fun q => (sm_b i (by omega) q).2) 16; omega) (by have := glx_b (A := A) (fun q => (sm_b i (by omega) q).1) 16; omega) (fun h65 => ?_) (fun h65 => ?_)
                · -- 65 T
                  refine x_iinc hC (z := 1) (v := (nI (i + 1))) 3 rfl (nI_add i 1) [(1, .int (nI (i + 1))), (3, .int (zI (glx A (sm i) 16))), (2, .int (zI (llx A (sm i) 16))), (0, .ref (a 4))] rfl (lt_n hn rfl) dX4_survey_74 ?_
                  refine x_goto hC 41 dX4_survey_77 rfl ?_
                  refine x_lv [3, 0] rfl ?_
                  exact ih41 (setc (setc M 21 f) 22 g) (i + 1) (by omega) (by omega) (hag.w) (hsp.skip hA (by omega) (by unfold lo9 hi9; omega))
                · -- 65 F
                  refine x_aload_n hC 2 rfl dX4_survey_68 ?_
                  refine x_iload_n hC 1 rfl dX4_survey_69 ?_
                  refine x_iload_n hC 0 rfl dX4_survey_70 ?_
                  refine x_callVV hC cw_X4_63 (c_X4_countPlanes (lo := (llx A (sm i) 16)) (hi := (glx A (sm i) 16)) (P := (plcx A i)) (O := (fun q => plox A q i)) (s := (sm i)) hsp.2.1 hsp.2.2.1 hg (sm_b i (by omega)) (by have := llx_b (A := A) (fun q => (sm_b i (by omega) q).2) 16; omega) (by omega) (by have := glx_b (A := A) (fun q => (sm_b i (by omega) q).1) 16; omega) (by have := plcx_le A i; omega)) dX4_survey_71 [] rfl (Nat.le_of_ble_eq_true rfl) rfl (rm_ok hRm (by decide) (by decide)) 4 4 rfl rfl (fun m71 hp71 => ?_)
                  obtain ⟨f2, g2, rfl, hf2, hg2⟩ := hp71
                  refine x_iinc hC (z := 1) (v := (nI (i + 1))) 3 rfl (nI_add i 1) [(1, .int (nI (i + 1))), (3, .int (zI (glx A (sm i) 16))), (2, .int (zI (llx A (sm i) 16))), (0, .ref (a 4))] rfl (lt_n hn rfl) dX4_survey_74 ?_
                  refine x_goto hC 41 dX4_survey_77 rfl ?_
                  refine x_lv [3, 0] rfl ?_
                  exact ih41 (setc (up (setc (setc (setc M 21 f) 22 g) 19 f2) 0 6 (nI (plcx A i + (hi9 A i - lo9 A i + 1).toNat))) 20 g2) (i + 1) (by omega) (by omega) (hag.w.c) (hsp.add hA (by omega) (by unfold lo9 hi9; omega) hf hf2 hg2)
          exact L41 _ (setc (up (up μ 0 5 (nI 1)) 0 6 (nI 0)) 20 g) 0 (Nat.lt_succ_self _) (by omega) (AgS.i) (SvP.init (fun q h => hg q (by omega)))
        · -- 23 F
          refine x_aload_n hC 0 rfl dX4_survey_26 ?_
          refine x_get hC fl_X4_34 dX4_survey_27 4 rfl rfl ?_
          refine x_iload_n hC 1 rfl dX4_survey_30 ?_
          refine x_iconst hC (v := (nI 0)) dX4_survey_31 rfl ?_
          refine x_iast hC 20 0 rfl rfl (by omega) (by decide) (xw c a (setc (up (up μ 0 5 (nI 1)) 0 6 (nI 0)) 20 (upd g i (nI 0)))) rfl dX4_survey_32 ?_
          refine x_iinc hC (z := 1) (v := (nI (i + 1))) 1 rfl (nI_add i 1) [(1, .int (nI (i + 1))), (0, .ref (a 4))] rfl (lt_n hn rfl) dX4_survey_33 ?_
          refine x_goto hC 20 dX4_survey_36 rfl ?_
          refine x_lv [1, 0] rfl ?_
          exact ih20 (upd g i (nI 0)) (i + 1) (by omega) (by omega) (upd_all (Q := fun q v => v = nI 0) hg rfl)
    exact L20 _ (μ 20) 0 (Nat.lt_succ_self _) (by omega) (fun q h => absurd h (by omega))
  · -- 4 F
    exact x_vret hC hR dX4_survey_7 (⟨AgS.rf μ, by rw [hb5, h4], hbf h4⟩)
set_option maxHeartbeats 4000000 in
set_option maxRecDepth 100000 in
theorem c_X4_foretell {l : Launch} {D : va_G} {c : Nat → ClassId} {a : Nat → Nat} {μ : Me} {q : Nat} {A : Nat → Nat} (hs16 : ∀ q, q < 16 → μ 16 q = bz (decide (A q ≠ 0))) (hs17 : ∀ q, q < 16 → A q ≠ 0 → μ 17 q = nI (A q - 1)) (hA : ∀ q, q < 16 → A q ≤ 2) (hsv : ∃ b : Bool, μ 0 5 = bz b ∧ (b = true → SvF μ A)) (hq : q < 16) : KI l D (tyE c) (xw c a) yX4_foretell cX4_foretell 2 .int (rmL 4) [.ref (a 4), .int (nI q)] μ (fun r u => r = nI (frt A q) ∧ AgS μ u ∧ u 0 5 = bz true ∧ SvF u A) := by
  refine x_enterI (by decide) (Nat.le_of_ble_eq_true rfl) (fun F hl hD hn hRm hC hR => ?_)
  subst hl hD
  change XW F 0 0 (xw c a μ) [(0, .ref (a 4)), (1, .int (nI q))] 0 []
  change FC F cX4_foretell RX4 (tyE c) at hC
  refine x_aload_n hC 0 rfl dX4_foretell_0 ?_
  refine x_callVV hC cw_X4_43 (c_X4_survey  (A := A) (by first | assumption | omega) (by first | assumption | omega) (by first | assumption | omega) (by first | assumption | omega)) dX4_foretell_1 [] rfl (Nat.le_of_ble_eq_true rfl) rfl (rm_ok hRm (by decide) (by decide)) 4 4 rfl rfl (fun m1 hp1 => ?_)
  obtain ⟨hag, hs5, hs6, hs20, hs19⟩ := hp1
  refine x_aload_n hC 0 rfl dX4_foretell_4 ?_
  refine x_get hC fl_X4_28 dX4_foretell_5 4 rfl (v := .int (nI (plc A))) (xv hs6) ?_
  refine x_if_neN hC 13 dX4_foretell_8 rfl (by have := plc_b A; omega) (fun h8 => ?_) (fun h8 => ?_)
  · -- 8 T
    refine x_aload_n hC 0 rfl dX4_foretell_13 ?_
    refine x_get hC fl_X4_34 dX4_foretell_14 4 rfl rfl ?_
    refine x_iload_n hC 1 rfl dX4_foretell_17 ?_
    refine x_iald hC 20 0 rfl rfl (y := (nI (plo A q))) (by omega) (by decide) (hs20 q (by omega)) dX4_foretell_18 ?_
    refine x_aload_n hC 0 rfl dX4_foretell_19 ?_
    refine x_get hC fl_X4_28 dX4_foretell_20 4 rfl (v := .int (nI (plc A))) (xv hs6) ?_
    refine x_icmp_neN hC 28 dX4_foretell_23 rfl (by have := plc_b A; have := plo_le A q; omega) (by have := plc_b A; omega) (fun h23 => ?_) (fun h23 => ?_)
    · -- 23 T
      refine x_aload_n hC 0 rfl dX4_foretell_28 ?_
      refine x_get hC fl_X4_34 dX4_foretell_29 4 rfl rfl ?_
      refine x_iload_n hC 1 rfl dX4_foretell_32 ?_
      refine x_iald hC 20 0 rfl rfl (y := (nI (plo A q))) (by omega) (by decide) (hs20 q (by omega)) dX4_foretell_33 ?_
      refine x_if_neN hC 41 dX4_foretell_34 rfl (by have := plc_b A; have := plo_le A q; omega) (fun h34 => ?_) (fun h34 => ?_)
      · -- 34 T
        refine x_iconst hC (v := (nI 2)) dX4_foretell_41 rfl ?_
        exact x_iret hC hR dX4_foretell_42 (⟨by rw [frt, if_neg h8, if_neg h23, if_neg h34], hag, hs5, hs6, hs20, hs19⟩)
      · -- 34 F
        refine x_iconst hC (v := (nI 0)) dX4_foretell_37 rfl ?_
        refine x_goto hC 42 dX4_foretell_38 rfl ?_
        exact x_iret hC hR dX4_foretell_42 (⟨by rw [frt, if_neg h8, if_neg h23, if_pos h34], hag, hs5, hs6, hs20, hs19⟩)
    · -- 23 F
      refine x_iconst hC (v := (nI 1)) dX4_foretell_26 rfl ?_
      exact x_iret hC hR dX4_foretell_27 (⟨by rw [frt, if_neg h8, if_pos h23], hag, hs5, hs6, hs20, hs19⟩)
  · -- 8 F
    refine x_iconst hC (v := (nI 3)) dX4_foretell_11 rfl ?_
    exact x_iret hC hR dX4_foretell_12 (⟨by rw [frt, if_pos h8], hag, hs5, hs6, hs20, hs19⟩)
set_option maxHeartbeats 4000000 in
set_option maxRecDepth 100000 in
theorem c_X4_halvingQuestion {l : Launch} {D : va_G} {c : Nat → ClassId} {a : Nat → Nat} {μ : Me} {A : Nat → Nat} (hs16 : ∀ q, q < 16 → μ 16 q = bz (decide (A q ≠ 0))) (hs17 : ∀ q, q < 16 → A q ≠ 0 → μ 17 q = nI (A q - 1)) (hA : ∀ q, q < 16 → A q ≤ 2) (hsv : ∃ b : Bool, μ 0 5 = bz b ∧ (b = true → SvF μ A)) : KI l D (tyE c) (xw c a) yX4_halvingQuestion cX4_halvingQuestion 5 .int (rmL 4) [.ref (a 4)] μ (fun r u => ((nq9 A = none ∧ r = zI (-1)) ∨ (∃ x, nq9 A = some x ∧ r = nI x ∧ x < 16)) ∧ AgS μ u ∧ u 0 5 = bz true ∧ SvF u A) := by
  refine x_enterI (by decide) (Nat.le_of_ble_eq_true rfl) (fun F hl hD hn hRm hC hR => ?_)
  subst hl hD
  change XW F 0 0 (xw c a μ) [(0, .ref (a 4))] 0 []
  change FC F cX4_halvingQuestion RX4 (tyE c) at hC
  refine x_aload_n hC 0 rfl dX4_halvingQuestion_0 ?_
  refine x_callVV hC cw_X4_43 (c_X4_survey  (A := A) (by first | assumption | omega) (by first | assumption | omega) (by first | assumption | omega) (by first | assumption | omega)) dX4_halvingQuestion_1 [] rfl (Nat.le_of_ble_eq_true rfl) rfl (rm_ok hRm (by decide) (by decide)) 4 4 rfl rfl (fun m1 hp1 => ?_)
  obtain ⟨hag, hs5, hs6, hs20, hs19⟩ := hp1
  refine x_iconst hC (v := (zI (-1))) dX4_halvingQuestion_4 rfl ?_
  refine x_istore_n hC [(1, .int (zI (-1))), (0, .ref (a 4))] rfl (lt_n hn rfl) dX4_halvingQuestion_5 ?_
  refine x_aload_n hC 1 rfl dX4_halvingQuestion_6 ?_
  refine x_get hC fl_X4_28 dX4_halvingQuestion_7 4 rfl (v := .int (nI (plc A))) (xv hs6) ?_
  refine x_istore_n hC [(2, .int (nI (plc A))), (1, .int (zI (-1))), (0, .ref (a 4))] rfl (lt_n hn rfl) dX4_halvingQuestion_10 ?_
  refine x_iconst hC (v := (nI 0)) dX4_halvingQuestion_11 rfl ?_
  refine x_istore_n hC [(3, .int (nI 0)), (2, .int (nI (plc A))), (1, .int (zI (-1))), (0, .ref (a 4))] rfl (lt_n hn rfl) dX4_halvingQuestion_12 ?_
  refine x_lv [3, 2, 1, 0] rfl ?_
  have L13 : ∀ (N13 : Nat) (b : Int) (ls : Nat) (i : Nat), 16 - i < N13 → (i ≤ 16) → ((nb9 A i = none ∧ b = -1) ∨ (∃ x, nb9 A i = some x ∧ b = (x : Int) ∧ ls = gr9 A x ∧ x < 16 ∧ 0 < plc A)) → XW F 0 0 (xw c a m1) [(0, .ref (a 4)), (1, .int (zI b)), (2, .int (nI ls)), (3, .int (nI i))] 13 [] := by
    intro N13
    induction N13 with
    | zero => intro b ls i hN13 hi hb; exact absurd hN13 (by omega)
    | succ N13 ih13 =>
      intro b ls i hN13 hi hb
      have hplb := plc_b A
      have hplo := plo_le A
      rcases hb with ⟨hbn, rfl⟩ | ⟨x, hbn, rfl, rfl, hx16, hpl0⟩
      · skip
        change XW F 0 0 (xw c a m1) [(0, .ref (a 4)), (1, .int (zI (-1))), (2, .int (nI ls)), (3, .int (nI i))] 13 []
        refine x_iload_n hC 3 rfl dX4_halvingQuestion_13 ?_
        refine x_bipush hC (v := (nI 16)) dX4_halvingQuestion_14 rfl ?_
        refine x_icmp_geN hC 78 dX4_halvingQuestion_16 rfl (by omega) (by decide) (fun h16 => ?_) (fun h16 => ?_)
        · -- 16 T
          refine x_iload_n hC 1 rfl dX4_halvingQuestion_78 ?_
          exact x_iret hC hR dX4_halvingQuestion_79 (⟨Or.inl ⟨by rw [nq9]; split; rfl; rw [← show i = 16 by omega]; exact hbn, rfl⟩, hag, hs5, hs6, hs20, hs19⟩)
        · -- 16 F
          refine x_aload_n hC 0 rfl dX4_halvingQuestion_19 ?_
          refine x_get hC fl_X4_28 dX4_halvingQuestion_20 4 rfl (v := .int (nI (plc A))) (xv hs6) ?_
          refine x_if_leN hC 78 dX4_halvingQuestion_23 rfl (by omega) (fun h23 => ?_) (fun h23 => ?_)
          · -- 23 T
            refine x_iload_n hC 1 rfl dX4_halvingQuestion_78 ?_
            exact x_iret hC hR dX4_halvingQuestion_79 (⟨Or.inl ⟨by rw [nq9, if_pos (by omega)], rfl⟩, hag, hs5, hs6, hs20, hs19⟩)
          · -- 23 F
            refine x_aload_n hC 0 rfl dX4_halvingQuestion_26 ?_
            refine x_get hC fl_X4_34 dX4_halvingQuestion_27 4 rfl rfl ?_
            refine x_iload_n hC 3 rfl dX4_halvingQuestion_30 ?_
            refine x_iald hC 20 0 rfl rfl (y := (nI (plo A i))) (by omega) (by decide) (hs20 i (by omega)) dX4_halvingQuestion_31 ?_
            refine x_aload_n hC 0 rfl dX4_halvingQuestion_32 ?_
            refine x_get hC fl_X4_28 dX4_halvingQuestion_33 4 rfl (v := .int (nI (plc A))) (xv hs6) ?_
            refine x_aload_n hC 0 rfl dX4_halvingQuestion_36 ?_
            refine x_get hC fl_X4_34 dX4_halvingQuestion_37 4 rfl rfl ?_
            refine x_iload_n hC 3 rfl dX4_halvingQuestion_40 ?_
            refine x_iald hC 20 0 rfl rfl (y := (nI (plo A i))) (by omega) (by decide) (hs20 i (by omega)) dX4_halvingQuestion_41 ?_
            refine x_isubE hC (z := (nI ((plc A) - (plo A i)))) (pk_sub (hplo i)) dX4_halvingQuestion_42 ?_
            refine x_max hC cm_X4_46 dX4_halvingQuestion_43 (v := (nI (gr9 A i))) (nI_max (by have := hplo i; omega) (by omega)) (by rw [hRm]; decide) (by rw [hRm]; exact Nat.le_of_ble_eq_true rfl) (by rw [hRm]; decide) (by rw [hRm]; decide) ?_
            refine x_istore hC [(4, .int (nI (gr9 A i))), (0, .ref (a 4)), (1, .int (zI (-1))), (2, .int (nI ls)), (3, .int (nI i))] rfl (lt_n hn rfl) dX4_halvingQuestion_46 ?_
            refine x_aload_n hC 1 rfl dX4_halvingQuestion_48 ?_
            refine x_get hC fl_X4_13 dX4_halvingQuestion_49 4 rfl rfl ?_
            refine x_iload_n hC 4 rfl dX4_halvingQuestion_52 ?_
            refine x_zald hC 16 1 rfl rfl (y := (bz (decide (A i ≠ 0)))) (by omega) (by decide) ((hag 16 i (by decide) (by decide) (by decide) (by decide) (by omega)).trans (hs16 i (by omega))) dX4_halvingQuestion_53 ?_
            refine x_if_neB hC 72 dX4_halvingQuestion_54 rfl (fun h54 => ?_) (fun h54 => ?_)
            · -- 54 T
              replace h54 := of_decide_eq_true h54
              refine x_iinc hC (z := 1) (v := (nI (i + 1))) 4 rfl (nI_add i 1) [(3, .int (nI (i + 1))), (4, .int (nI (gr9 A i))), (0, .ref (a 4)), (1, .int (zI (-1))), (2, .int (nI ls))] rfl (lt_n hn rfl) dX4_halvingQuestion_72 ?_
              refine x_goto hC 13 dX4_halvingQuestion_75 rfl ?_
              refine x_lv [2, 3, 4, 0] rfl ?_
              exact ih13 (-1) ls (i + 1) (by omega) (by omega) (Or.inl ⟨by rw [nb9_n hbn, if_neg h54], rfl⟩)
            · -- 54 F
              replace h54 := Decidable.of_not_not (of_decide_eq_false h54)
              refine x_iload_n hC 2 rfl dX4_halvingQuestion_57 ?_
              refine x_if_lt_T hC 67 dX4_halvingQuestion_58 rfl (by decide) ?_
              refine x_iload hC 0 rfl dX4_halvingQuestion_67 ?_
              refine x_istore_n hC [(2, .int (nI (gr9 A i))), (4, .int (nI (gr9 A i))), (0, .ref (a 4)), (1, .int (zI (-1))), (3, .int (nI i))] rfl (lt_n hn rfl) dX4_halvingQuestion_69 ?_
              refine x_iload_n hC 4 rfl dX4_halvingQuestion_70 ?_
              refine x_istore_n hC [(1, .int (nI i)), (2, .int (nI (gr9 A i))), (4, .int (nI (gr9 A i))), (0, .ref (a 4)), (3, .int (nI i))] rfl (lt_n hn rfl) dX4_halvingQuestion_71 ?_
              refine x_iinc hC (z := 1) (v := (nI (i + 1))) 4 rfl (nI_add i 1) [(3, .int (nI (i + 1))), (1, .int (nI i)), (2, .int (nI (gr9 A i))), (4, .int (nI (gr9 A i))), (0, .ref (a 4))] rfl (lt_n hn rfl) dX4_halvingQuestion_72 ?_
              refine x_goto hC 13 dX4_halvingQuestion_75 rfl ?_
              refine x_lv [4, 1, 2, 0] rfl ?_
              exact ih13 ((i : Nat) : Int) (gr9 A i) (i + 1) (by omega) (by omega) (Or.inr ⟨i, by rw [nb9_n hbn, if_pos h54], rfl, rfl, by omega, h23⟩)
      · skip
        change XW F 0 0 (xw c a m1) [(0, .ref (a 4)), (1, .int (nI x)), (2, .int (nI (gr9 A x))), (3, .int (nI i))] 13 []
        refine x_iload_n hC 3 rfl dX4_halvingQuestion_13 ?_
        refine x_bipush hC (v := (nI 16)) dX4_halvingQuestion_14 rfl ?_
        refine x_icmp_geN hC 78 dX4_halvingQuestion_16 rfl (by omega) (by decide) (fun h16 => ?_) (fun h16 => ?_)
        · -- 16 T
          refine x_iload_n hC 1 rfl dX4_halvingQuestion_78 ?_
          exact x_iret hC hR dX4_halvingQuestion_79 (⟨Or.inr ⟨x, by rw [nq9, if_neg (by omega), ← show i = 16 by omega]; exact hbn, rfl, hx16⟩, hag, hs5, hs6, hs20, hs19⟩)
        · -- 16 F
          refine x_aload_n hC 0 rfl dX4_halvingQuestion_19 ?_
          refine x_get hC fl_X4_28 dX4_halvingQuestion_20 4 rfl (v := .int (nI (plc A))) (xv hs6) ?_
          refine x_if_leN hC 78 dX4_halvingQuestion_23 rfl (by omega) (fun h23 => ?_) (fun h23 => ?_)
          · -- 23 T
            exact absurd h23 (by omega)
          · -- 23 F
            refine x_aload_n hC 0 rfl dX4_halvingQuestion_26 ?_
            refine x_get hC fl_X4_34 dX4_halvingQuestion_27 4 rfl rfl ?_
            refine x_iload_n hC 3 rfl dX4_halvingQuestion_30 ?_
            refine x_iald hC 20 0 rfl rfl (y := (nI (plo A i))) (by omega) (by decide) (hs20 i (by omega)) dX4_halvingQuestion_31 ?_
            refine x_aload_n hC 0 rfl dX4_halvingQuestion_32 ?_
            refine x_get hC fl_X4_28 dX4_halvingQuestion_33 4 rfl (v := .int (nI (plc A))) (xv hs6) ?_
            refine x_aload_n hC 0 rfl dX4_halvingQuestion_36 ?_
            refine x_get hC fl_X4_34 dX4_halvingQuestion_37 4 rfl rfl ?_
            refine x_iload_n hC 3 rfl dX4_halvingQuestion_40 ?_
            refine x_iald hC 20 0 rfl rfl (y := (nI (plo A i))) (by omega) (by decide) (hs20 i (by omega)) dX4_halvingQuestion_41 ?_
            refine x_isubE hC (z := (nI ((plc A) - (plo A i)))) (pk_sub (hplo i)) dX4_halvingQuestion_42 ?_
            refine x_max hC cm_X4_46 dX4_halvingQuestion_43 (v := (nI (gr9 A i))) (nI_max (by have := hplo i; omega) (by omega)) (by rw [hRm]; decide) (by rw [hRm]; exact Nat.le_of_ble_eq_true rfl) (by rw [hRm]; decide) (by rw [hRm]; decide) ?_
            refine x_istore hC [(4, .int (nI (gr9 A i))), (0, .ref (a 4)), (1, .int (nI x)), (2, .int (nI (gr9 A x))), (3, .int (nI i))] rfl (lt_n hn rfl) dX4_halvingQuestion_46 ?_
            refine x_aload_n hC 1 rfl dX4_halvingQuestion_48 ?_
            refine x_get hC fl_X4_13 dX4_halvingQuestion_49 4 rfl rfl ?_
            refine x_iload_n hC 4 rfl dX4_halvingQuestion_52 ?_
            refine x_zald hC 16 1 rfl rfl (y := (bz (decide (A i ≠ 0)))) (by omega) (by decide) ((hag 16 i (by decide) (by decide) (by decide) (by decide) (by omega)).trans (hs16 i (by omega))) dX4_halvingQuestion_53 ?_
            refine x_if_neB hC 72 dX4_halvingQuestion_54 rfl (fun h54 => ?_) (fun h54 => ?_)
            · -- 54 T
              replace h54 := of_decide_eq_true h54
              refine x_iinc hC (z := 1) (v := (nI (i + 1))) 4 rfl (nI_add i 1) [(3, .int (nI (i + 1))), (4, .int (nI (gr9 A i))), (0, .ref (a 4)), (1, .int (nI x)), (2, .int (nI (gr9 A x)))] rfl (lt_n hn rfl) dX4_halvingQuestion_72 ?_
              refine x_goto hC 13 dX4_halvingQuestion_75 rfl ?_
              refine x_lv [2, 3, 4, 0] rfl ?_
              exact ih13 ((x : Nat) : Int) (gr9 A x) (i + 1) (by omega) (by omega) (Or.inr ⟨x, by rw [nb9_s hbn, if_neg (fun q => h54 q.1)], rfl, rfl, hx16, hpl0⟩)
            · -- 54 F
              replace h54 := Decidable.of_not_not (of_decide_eq_false h54)
              refine x_iload_n hC 2 rfl dX4_halvingQuestion_57 ?_
              refine x_if_lt_F hC 67 dX4_halvingQuestion_58 rfl (by rw [i32_lt, i32_0, nI_toI (by omega)]; omega) ?_
              refine x_iload hC 0 rfl dX4_halvingQuestion_61 ?_
              refine x_iload_n hC 3 rfl dX4_halvingQuestion_63 ?_
              refine x_icmp_geN hC 72 dX4_halvingQuestion_64 rfl (by have := gr9_b A i; omega) (by have := gr9_b A x; omega) (fun h64 => ?_) (fun h64 => ?_)
              · -- 64 T
                refine x_iinc hC (z := 1) (v := (nI (i + 1))) 4 rfl (nI_add i 1) [(3, .int (nI (i + 1))), (4, .int (nI (gr9 A i))), (0, .ref (a 4)), (1, .int (nI x)), (2, .int (nI (gr9 A x)))] rfl (lt_n hn rfl) dX4_halvingQuestion_72 ?_
                refine x_goto hC 13 dX4_halvingQuestion_75 rfl ?_
                refine x_lv [2, 3, 4, 0] rfl ?_
                exact ih13 ((x : Nat) : Int) (gr9 A x) (i + 1) (by omega) (by omega) (Or.inr ⟨x, by rw [nb9_s hbn, if_neg (fun q => absurd q.2 (by omega))], rfl, rfl, hx16, hpl0⟩)
              · -- 64 F
                refine x_iload hC 0 rfl dX4_halvingQuestion_67 ?_
                refine x_istore_n hC [(2, .int (nI (gr9 A i))), (4, .int (nI (gr9 A i))), (0, .ref (a 4)), (1, .int (nI x)), (3, .int (nI i))] rfl (lt_n hn rfl) dX4_halvingQuestion_69 ?_
                refine x_iload_n hC 4 rfl dX4_halvingQuestion_70 ?_
                refine x_istore_n hC [(1, .int (nI i)), (2, .int (nI (gr9 A i))), (4, .int (nI (gr9 A i))), (0, .ref (a 4)), (3, .int (nI i))] rfl (lt_n hn rfl) dX4_halvingQuestion_71 ?_
                refine x_iinc hC (z := 1) (v := (nI (i + 1))) 4 rfl (nI_add i 1) [(3, .int (nI (i + 1))), (1, .int (nI i)), (2, .int (nI (gr9 A i))), (4, .int (nI (gr9 A i))), (0, .ref (a 4))] rfl (lt_n hn rfl) dX4_halvingQuestion_72 ?_
                refine x_goto hC 13 dX4_halvingQuestion_75 rfl ?_
                refine x_lv [4, 1, 2, 0] rfl ?_
                exact ih13 ((i : Nat) : Int) (gr9 A i) (i + 1) (by omega) (by omega) (Or.inr ⟨i, by rw [nb9_s hbn, if_pos ⟨h54, h64⟩], rfl, rfl, by omega, hpl0⟩)
  exact L13 _ (-1) (plc A) 0 (Nat.lt_succ_self _) (by omega) (Or.inl ⟨rfl, rfl⟩)
