/-! ===== the recorded states ===== -/
def HsX (M : Mem) : Prop := 0 ≤ M 31 1 ∧ M 31 1 ≤ 5 ∧ (∀ i : Int, 0 ≤ i → i < 5 → 3 ≤ M 32 i ∧ M 32 i ≤ 7) ∧ (∀ i j : Int, 0 ≤ i → i < 5 → 0 ≤ j → j < 5 → M 32 i = M 32 j → i = j)
def XI (M : Mem) : Prop := TbX M ∧ (∀ k : Nat, k < 9 → zSk M k) ∧ HsX M
def disI (M : Mem) (n : Int) : Mem := fun k z => if k = 32 ∧ 0 ≤ z ∧ z < n then M 32 (z + 1) else M k z
def disM (M : Mem) : Mem := fun k z => if k = 32 ∧ 0 ≤ z ∧ z < 4 then M 32 (z + 1) else if k = 32 ∧ z = 4 then M 32 0 else if k = 31 ∧ z = 1 then 4 else M k z
theorem disI_0 {M : Mem} : M = disI M 0 := by
  funext k z
  simp only [disI]
  grind
theorem disI_s {M : Mem} (n : Nat) {v : Int} (hv : v = M 32 ((n : Int) + 1)) : zup (disI M n) 32 ((n : Int) + 1 - 1) v = disI M ((n + 1 : Nat) : Int) := by
  subst hv
  funext k z
  simp only [disI, zup]
  grind
theorem disI_at {M : Mem} {n z : Int} (h : n ≤ z) : disI M n 32 z = M 32 z := by
  simp only [disI]
  rw [if_neg (by omega)]
theorem disM_of {M : Mem} {v : Int} (hv : v = M 32 0) : zup (zup (disI M 4) 32 4 v) 31 1 4 = disM M := by
  subst hv
  funext k z
  simp only [disI, disM, zup]
  grind
def recA (M : Mem) : Mem := if 5 ≤ M 31 1 then disM M else M
def recM (M : Mem) : Mem := zup (copM (recA M) (recA M 32 (recA M 31 1)).toNat 0 144) 31 1 (recA M 31 1 + 1)
theorem recA_off {M : Mem} {k : Nat} (h1 : k ≠ 31) (h2 : k ≠ 32) : recA M k = M k := by
  funext z
  unfold recA
  split
  · simp [disM, h1, h2]
  · rfl
theorem zSk_congr {M M' : Mem} {k : Nat} (h1 : M' k = M k) (h2 : M' (k + 9) = M (k + 9)) (h3 : M' (k + 18) = M (k + 18)) (h : zSk M k) : zSk M' k := by
  unfold zSk at *
  rw [h1, h2, h3]
  exact h
theorem recA_H {M : Mem} (h : HsX M) : HsX (recA M) ∧ recA M 31 1 < 5 := by
  obtain ⟨h1, h2, h3, h4⟩ := h
  unfold recA
  split
  · have hx : ∀ i : Int, 0 ≤ i → i < 5 → disM M 32 i = M 32 (if i < 4 then i + 1 else 0) := by
      intro i h0 h5
      simp only [disM]
      grind
    have hk : disM M 31 1 = 4 := by simp [disM]
    refine ⟨⟨by omega, by omega, fun i hi0 hi1 => ?_, fun i j hi0 hi1 hj0 hj1 e => ?_⟩, by omega⟩
    · rw [hx i hi0 hi1]
      exact h3 _ (by split <;> omega) (by split <;> omega)
    · rw [hx i hi0 hi1, hx j hj0 hj1] at e
      have := h4 _ _ (by split <;> omega) (by split <;> omega) (by split <;> omega) (by split <;> omega) e
      split at this <;> split at this <;> omega
  · exact ⟨⟨h1, h2, h3, h4⟩, by omega⟩
-- the reference
