/-! ===== what stands between two calls of the law: both sides hold the same ===== -/
def zgX (M : Mem) : Prop := XI M ∧ (M 27 4 = 0 ∨ M 27 4 = 1) ∧ (0 ≤ M 36 1 ∧ M 36 1 ≤ 80) ∧ ∀ z : Int, 0 ≤ z → z < 80 → 0 ≤ M 37 z ∧ M 37 z < 128
theorem XI_congr {M M' : Mem} (e : ∀ k : Nat, k < 33 → k ≠ 27 → M' k = M k) (h : XI M) : XI M' := by
  obtain ⟨h1, h2, h3⟩ := h
  refine ⟨?_, fun k hk => zSk_congr (e k (by omega) (by omega)) (e _ (by omega) (by omega)) (e _ (by omega) (by omega)) (h2 k hk), ?_⟩
  · unfold TbX
    rw [e 29 (by decide) (by decide), e 30 (by decide) (by decide)]
    exact h1
  · unfold HsX
    rw [e 31 (by decide) (by decide), e 32 (by decide) (by decide)]
    exact h3
theorem GX_congr {M M' : Mem} (e : ∀ k : Nat, k < 38 → k ≠ 33 → k ≠ 34 → k ≠ 35 → M' k = M k) (h : zgX M) : zgX M' := by
  obtain ⟨h1, h2, h3, h4⟩ := h
  refine ⟨XI_congr (fun k a b => e k (by omega) (by omega) (by omega) (by omega)) h1, ?_, ?_, ?_⟩
  · rw [e 27 (by decide) (by decide) (by decide) (by decide)]; exact h2
  · rw [e 36 (by decide) (by decide) (by decide) (by decide)]; exact h3
  · rw [e 37 (by decide) (by decide) (by decide) (by decide)]; exact h4
/-! recording, on both sides -/
