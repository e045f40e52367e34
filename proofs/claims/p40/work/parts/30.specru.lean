/-! ===== what the reference's changing calls do to the cells ===== -/
theorem inT_S {t : TS} {r c r' c' : Int} {b : Bool} : inT (tsS t r c b) r' c' = inT t r' c' := by
  unfold tsS
  split <;> rfl
theorem laT_S {t : TS} {r c r' c' : Int} {b : Bool} : laT (tsS t r c b) r' c' = if inT t r c = true ∧ r' = r ∧ c' = c then b else laT t r' c' := by
  unfold tsS
  by_cases h : inT t r c = true ∧ laT t r c ≠ b
  · rw [if_pos h]
    show (if inT t r' c' then (if r' = r ∧ c' = c then b else t.2.2.2.1 r' c') else tO t) = _
    by_cases e : r' = r ∧ c' = c
    · obtain ⟨rfl, rfl⟩ := e
      simp [h.1]
    · have hn : ¬ (inT t r c = true ∧ r' = r ∧ c' = c) := fun q => e q.2
      rw [if_neg hn, if_neg e]
      rfl
  · rw [if_neg h]
    by_cases e : inT t r c = true ∧ r' = r ∧ c' = c
    · rw [if_pos e, e.2.1, e.2.2]
      exact Decidable.byContradiction fun q => h ⟨e.1, q⟩
    · rw [if_neg e]
theorem piT_S {t : TS} {r c r' c' : Int} {b : Bool} : piT (tsS t r c b) r' c' = if (inT t r c = true ∧ laT t r c ≠ b) ∧ r' = r ∧ c' = c then -1 else piT t r' c' := by
  unfold tsS
  by_cases h : inT t r c = true ∧ laT t r c ≠ b
  · rw [if_pos h]
    show (if inT t r' c' then (if r' = r ∧ c' = c then -1 else t.2.2.2.2 r' c') else -1) = _
    by_cases e : r' = r ∧ c' = c
    · rw [if_pos (show (inT t r c = true ∧ laT t r c ≠ b) ∧ r' = r ∧ c' = c from ⟨h, e⟩), if_pos e]
      split <;> rfl
    · have hn : ¬ ((inT t r c = true ∧ laT t r c ≠ b) ∧ r' = r ∧ c' = c) := fun q => e q.2
      rw [if_neg hn, if_neg e]
      rfl
  · have hn : ¬ ((inT t r c = true ∧ laT t r c ≠ b) ∧ r' = r ∧ c' = c) := fun q => h q.1
    rw [if_neg h, if_neg hn]
