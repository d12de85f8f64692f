/-! states stay good -/
theorem SV.rf {S : SS} (h : SV S) (j : Nat) : SV (sref S j) := ⟨h.1, h.mask, h.k, h.chips, h.told, h.chip, h.rows, h.ind, h.pair⟩
theorem SV.new {S : SS} (h : SV S) {n : Nat} (h1 : 4 ≤ n) (h2 : n ≤ 14) : SV (snew S n) := by
  refine ⟨⟨h1, h2⟩, Nat.two_pow_pos _, Nat.zero_le _, Nat.zero_le _, h.told, fun j hj => absurd hj (Nat.not_lt_zero _), fun j hj => absurd hj (Nat.not_lt_zero _), fun key h3 h4 => ?_, h.pair⟩
  have h4 : key < 2 ^ 0 := h4
  simp at h4
  omega
theorem SV.add {S : SS} (h : SV S) {w : Nat} (hw : w < 2 ^ S 0 0) (h8 : S 0 3 < 8) : SV (sadd S w) := by
  refine ⟨h.1, h.mask, h.k, h8, h.told, fun j hj => ?_, h.rows, h.ind, h.pair⟩
  have hj : j < S 0 3 + 1 := hj
  show (if j = S 0 3 then w else S 5 j) < 2 ^ S 0 0 ∧ (if j = S 0 3 then 0 else S 6 j) ≤ 1 ∧ ((if j = S 0 3 then 0 else S 6 j) = 1 → S 7 j < 2 ^ S 0 0 ∧ S 7 j &&& S 0 1 = 0 ∧ S 8 j < 2 ^ S 0 2)
  by_cases q : j = S 0 3
  · rw [if_pos q, if_pos q]
    exact ⟨hw, by omega, fun e => by cases e⟩
  · rw [if_neg q, if_neg q]
    exact h.chip j (by omega)
theorem SV.set0 {S : SS} (h : SV S) {c v : Nat} (hv : v ≤ 4) : SV (sup S 2 c v) := by
  refine ⟨h.1, h.mask, h.k, h.chips, fun j hj => ?_, h.chip, h.rows, h.ind, h.pair⟩
  show (if j = c then v else S 2 j) ≤ 4 ∧ S 3 j ≤ 4 ∧ 1 ≤ S 4 j ∧ S 4 j ≤ 7
  have := h.told j hj
  split <;> omega
theorem SV.set1 {S : SS} (h : SV S) {c v : Nat} (hv : v ≤ 4) : SV (sup S 3 c v) := by
  refine ⟨h.1, h.mask, h.k, h.chips, fun j hj => ?_, h.chip, h.rows, h.ind, h.pair⟩
  show S 2 j ≤ 4 ∧ (if j = c then v else S 3 j) ≤ 4 ∧ 1 ≤ S 4 j ∧ S 4 j ≤ 7
  have := h.told j hj
  split <;> omega
theorem SV.set2 {S : SS} (h : SV S) {c v : Nat} (h1 : 1 ≤ v) (hv : v ≤ 7) : SV (sup S 4 c v) := by
  refine ⟨h.1, h.mask, h.k, h.chips, fun j hj => ?_, h.chip, h.rows, h.ind, h.pair⟩
  show S 2 j ≤ 4 ∧ S 3 j ≤ 4 ∧ 1 ≤ (if j = c then v else S 4 j) ∧ (if j = c then v else S 4 j) ≤ 7
  have := h.told j hj
  split <;> omega
theorem SV.msk {S : SS} (h : SV S) {m : Nat} (hm : m < 2 ^ S 0 0) : SV (smask S m) := by
  unfold smask
  split
  · exact h
  · refine ⟨h.1, hm, Nat.zero_le _, h.chips, h.told, fun j hj => ⟨(h.chip j hj).1, Nat.zero_le _, fun e => ?_⟩, fun j hj => absurd hj (Nat.not_lt_zero _), fun key h3 h4 => ?_, h.pair⟩
    · have e : 0 = 1 := e
      cases e
    · have h4 : key < 2 ^ 0 := h4
      simp at h4
      omega
theorem SV.rw {S : SS} (h : SV S) {w : Nat} (hw : w < 2 ^ S 0 0) (hm : w &&& S 0 1 = 0) (hn : hol (cw S) (2 ^ S 0 2) w = false) (h6 : S 0 2 < 6) : SV (srw S w) := by
  refine ⟨h.1, h.mask, h6, h.chips, h.told, fun j hj => ⟨(h.chip j hj).1, Nat.zero_le _, fun e => ?_⟩, fun j hj => ?_, fun key h3 h4 => ?_, h.pair⟩
  · have e : 0 = 1 := e
    cases e
  · have hj : j < S 0 2 + 1 := hj
    show (if j = S 0 2 then w else S 9 j) < 2 ^ S 0 0 ∧ (if j = S 0 2 then w else S 9 j) &&& S 0 1 = 0
    by_cases q : j = S 0 2
    · rw [if_pos q]; exact ⟨hw, hm⟩
    · rw [if_neg q]; exact h.rows j (by omega)
  · have h4 : key < 2 ^ (S 0 2 + 1) := h4
    rw [Nat.pow_succ] at h4
    by_cases q : key < 2 ^ S 0 2
    · rw [(cw_row S w key q).1]; exact h.ind key h3 q
    · obtain ⟨r, rfl⟩ : ∃ r, key = 2 ^ S 0 2 + r := ⟨key - 2 ^ S 0 2, by omega⟩
      rw [(cw_row S w r (by omega)).2]
      intro z
      rw [hol_T (by omega) (xor_eq0 z)] at hn
      cases hn
theorem SV.hlp {S : SS} (h : SV S) {c w key : Nat} (hw : w < 2 ^ S 0 0) (hm : w &&& S 0 1 = 0) (hk : key < 2 ^ S 0 2) : SV (shelp S c w key) := by
  refine ⟨h.1, h.mask, h.k, h.chips, h.told, fun j hj => ?_, h.rows, h.ind, h.pair⟩
  show S 5 j < 2 ^ S 0 0 ∧ (if j = c then 1 else S 6 j) ≤ 1 ∧ ((if j = c then 1 else S 6 j) = 1 → (if j = c then w else S 7 j) < 2 ^ S 0 0 ∧ (if j = c then w else S 7 j) &&& S 0 1 = 0 ∧ (if j = c then key else S 8 j) < 2 ^ S 0 2)
  have hc := h.chip j hj
  by_cases q : j = c
  · rw [if_pos q, if_pos q, if_pos q]
    exact ⟨hc.1, by omega, fun _ => ⟨hw, hm, hk⟩⟩
  · rw [if_neg q, if_neg q, if_neg q]
    exact hc
theorem SV.pr {S : SS} (h : SV S) {q a : Nat} (ha : a < 2) : SV (sup S 10 q (a + 1)) := by
  refine ⟨h.1, h.mask, h.k, h.chips, h.told, h.chip, h.rows, h.ind, fun j hj => ?_⟩
  show (if j = q then a + 1 else S 10 j) ≤ 2 ∧ S 11 j ≤ 1
  have := h.pair j hj
  split <;> omega
theorem SV.us {S : SS} (h : SV S) {q : Nat} : SV (sup S 11 q 1) := by
  refine ⟨h.1, h.mask, h.k, h.chips, h.told, h.chip, h.rows, h.ind, fun j hj => ?_⟩
  show S 10 j ≤ 2 ∧ (if j = q then 1 else S 11 j) ≤ 1
  have := h.pair j hj
  split <;> omega
theorem tn_lt {n : Nat} {x : Int32} (h : isI n x = true) : tn x < n := by
  simp only [isI, Bool.and_eq_true, decide_eq_true_eq] at h
  unfold tn
  omega
theorem tn_ge {x : Int32} {lo : Nat} (h0 : lo < 2147483648) (h : ¬ x < nI lo) : lo ≤ tn x := by
  rw [i32_lt, nI_toI h0] at h
  unfold tn
  omega
theorem tn_le {x : Int32} {hi : Nat} (h0 : hi < 2147483648) (h : ¬ nI hi < x) : tn x ≤ hi := by
  rw [i32_lt, nI_toI h0] at h
  unfold tn
  omega
section Sv
variable {S : SS} (h : SV S)
theorem V_cells (x : Int32) : SV S → SV (sp_cells S x).2 := fun h => by
  unfold sp_cells
  split
  · exact h.rf 4
  · split
    · exact h.rf 6
    · rename_i h1 h2
      exact h.new (tn_ge (by decide) h1) (tn_le (by decide) h2)
theorem V_chip (x : Int32) : SV S → SV (sp_chip S x).2 := fun h => by
  unfold sp_chip
  split
  · rename_i h1
    split
    · rename_i h2
      exact h.add (tn_lt h1) h2
    · exact h.rf 6
  · exact h.rf 1
theorem V_set (c t v : Int32) : SV S → SV (sp_set S c t v).2 := fun h => by
  unfold sp_set
  split
  · split
    · rename_i h1 h2
      have h3 := tn_lt h2
      generalize tn t = w at h3 ⊢
      split
      · exact h.rf 4
      · split
        · exact h.rf 6
        · rename_i h4 h5
          rcases (show w = 0 ∨ w = 1 ∨ w = 2 by omega) with rfl | rfl | rfl
          · exact h.set0 (tn_le (hi := 4) (by decide) h5)
          · exact h.set1 (tn_le (hi := 4) (by decide) h5)
          · exact h.set2 (tn_ge (lo := 1) (by decide) h4) (tn_le (hi := 7) (by decide) h5)
    · exact h.rf 2
  · exact h.rf 1
theorem V_chance (c a : Int32) : SV S → SV (sp_chance S c a).2 := fun h => by
  unfold sp_chance
  split
  · split
    · exact h.rf 4
    · split
      · exact h.rf 6
      · exact h
  · exact h.rf 1
theorem V_mask (x : Int32) : SV S → SV (sp_mask S x).2 := fun h => by
  unfold sp_mask
  split
  · rename_i h1
    exact h.msk (tn_lt h1)
  · exact h.rf 1
theorem V_maskBy (a m : Int32) : SV S → SV (sp_maskBy S a m).2 := fun h => by
  unfold sp_maskBy
  split
  · exact h.rf 4
  · split
    · exact h.rf 6
    · exact h.msk (lkx_lt _ _ _)
theorem V_row (x : Int32) : SV S → SV (sp_row S x).2 := fun h => by
  unfold sp_row
  split
  · rename_i h1
    split
    · exact h.rf 3
    · rename_i h2
      split
      · rename_i h3
        exact h.rw (nd_lt (tn_lt h1)) (nd_and _ _) (by cases q : hol (cw S) (2 ^ S 0 2) (nd (tn x) (S 0 1)) with | false => rfl | true => exact absurd q h2) h3
      · exact h.rf 6
  · exact h.rf 1
theorem V_distance : SV S → SV (sp_distance S).2 := fun h => h
theorem V_codeword (x : Int32) : SV S → SV (sp_codeword S x).2 := fun h => by unfold sp_codeword; split; exact h; exact h.rf 1
theorem V_mended (x : Int32) : SV S → SV (sp_mended S x).2 := fun h => by unfold sp_mended; split; exact h; exact h.rf 1
theorem V_clear (x : Int32) : SV S → SV (sp_clear S x).2 := fun h => by unfold sp_clear; split; exact h; exact h.rf 1
theorem V_enrol (c k : Int32) : SV S → SV (sp_enrol S c k).2 := fun h => by
  unfold sp_enrol
  split
  · rename_i h1
    have h2 := tn_lt h1.1
    have h3 := tn_lt h1.2
    exact h.hlp (Nat.xor_lt_two_pow (nd_lt (h.chip _ h2).1) (cw_ltn h _)) (xor_and0 (nd_and _ _) (cw_and h _)) h3
  · exact h.rf 1
theorem V_reading (c x : Int32) : SV S → SV (sp_reading S c x).2 := fun h => by unfold sp_reading; split; (split; exact h; exact h.rf 3); exact h.rf 1
theorem V_lasts (c x : Int32) : SV S → SV (sp_lasts S c x).2 := fun h => by
  unfold sp_lasts
  split
  · split
    · split
      · exact h.rf 4
      · split
        · exact h.rf 6
        · exact h
    · exact h.rf 3
  · exact h.rf 1
theorem V_guess (x : Int32) : SV S → SV (sp_guess S x).2 := fun h => by unfold sp_guess; split; exact h; exact h.rf 1
theorem V_leak : SV S → SV (sp_leak S).2 := fun h => h
theorem V_even (x t : Int32) : SV S → SV (sp_even S x t).2 := fun h => by unfold sp_even; split; (split; exact h; exact h.rf 2); exact h.rf 1
theorem V_expected : SV S → SV (sp_expected S).2 := fun h => h
theorem V_pair (q a : Int32) : SV S → SV (sp_pair S q a).2 := fun h => by
  unfold sp_pair
  split
  · rename_i h1
    split
    · exact h.rf 3
    · exact h.pr (tn_lt h1.2)
  · exact h.rf 1
theorem V_planes : SV S → SV (sp_planes S).2 := fun h => h
theorem V_plane (x : Int32) : SV S → SV (sp_plane S x).2 := fun h => by unfold sp_plane; split; exact h; exact h.rf 2
theorem V_foretold (x : Int32) : SV S → SV (sp_foretold S x).2 := fun h => by unfold sp_foretold; split; exact h; exact h.rf 1
theorem V_next : SV S → SV (sp_next S).2 := fun h => h
theorem V_check (q a : Int32) : SV S → SV (sp_check S q a).2 := fun h => by unfold sp_check; split; (split; exact h.rf 3; exact h.us); exact h.rf 1
theorem V_whose (x : Int32) : SV S → SV (sp_whose S x).2 := fun h => by unfold sp_whose; split; exact h; exact h.rf 1
theorem V_sure (x : Int32) : SV S → SV (sp_sure S x).2 := fun h => by unfold sp_sure; split; exact h; exact h.rf 1
theorem V_apart : SV S → SV (sp_apart S).2 := fun h => h
theorem V_odd (x : Int32) : SV S → SV (sp_odd S x).2 := fun h => by unfold sp_odd; split; exact h; exact h.rf 1
theorem V_count (x : Int32) : SV S → SV (sp_count S x).2 := fun h => h
end Sv
/-- the state a new object has -/
def S0 : SS := fun c j => if c = 0 then (if j = 0 then 8 else 0) else if c = 2 then 1 else if c = 4 then 4 else 0
theorem V_0 : SV S0 := by
  refine ⟨⟨by decide, by decide⟩, by decide, by decide, by decide, fun j _ => ⟨show 1 ≤ 4 by decide, show 0 ≤ 4 by decide, show 1 ≤ 4 by decide, show 4 ≤ 7 by decide⟩, fun j hj => absurd hj (Nat.not_lt_zero _), fun j hj => absurd hj (Nat.not_lt_zero _), fun key h1 h2 => ?_, fun q _ => ⟨show 0 ≤ 2 by decide, show 0 ≤ 1 by decide⟩⟩
  have h2 : key < 2 ^ 0 := h2
  simp at h2
  omega
