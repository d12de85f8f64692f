/-- the class's cells and the law's row of one long -/
def xo (c : Nat → ClassId) (a : Nat → Nat) (o : Nat) (q : MM) : va_W := xw c a q.1 ++ [(o, .inl (c 2, 1, .inr (.inl q.2)))]
def hhF : List (Nat × Nat × Nat × Nat) := [(0, 9, 12, 13), (0, 9, 16, 15)]
def hhW : List (Nat × Nat × Nat × Nat) := [(0, 9, 12, 13)]
theorem cl_L13 : Cond.classLink RL 13 tIA ∈ UU := uu_of (by decide +kernel) rfl
theorem cl_L15 : Cond.classLink RL 15 tIS ∈ UU := uu_of (by decide +kernel) rfl
theorem csw_fail : CSW RL 81 yL_fail cL_fail 5 hhF 4 := ⟨uu_of (by decide +kernel) rfl, uu_of (by decide +kernel) rfl, uu_of (by decide +kernel) rfl, uu_of (by decide +kernel) rfl, by decide +kernel⟩
theorem csw_weight : CSW RL 103 yL_weight cL_weight 5 hhW 4 := ⟨uu_of (by decide +kernel) rfl, uu_of (by decide +kernel) rfl, uu_of (by decide +kernel) rfl, uu_of (by decide +kernel) rfl, by decide +kernel⟩
