/-! ===== the reference's read ===== -/
theorem recR_38 {M : Mem} {z : Int} (h : z ≠ 2) : recR M 38 z = M 38 z := by
  unfold recR
  rw [zup_off h, mvR_off (by decide)]
  unfold recB
  split
  · rw [zup_off h]
    simp [shR]
  · rfl
theorem zxR_52 {M : Mem} {x : Int} (h : ∀ z : Int, 0 ≤ z → z < 144 → M 52 z = 0 ∨ M 52 z = 1) : ∀ z : Int, 0 ≤ z → z < 144 → zxR x M 52 z = 0 ∨ zxR x M 52 z = 1 := by
  intro z a b
  unfold zxR
  split
  · unfold rwR
    rw [zup_ne (by decide), zup_ne (by decide), zup_ne (by decide)]
    exact h z a b
  · split
    · unfold rnR
      rw [zup_ne (by decide)]
      simp only [flR]
      split
      · cases decide (x = 35)
        · exact Or.inl rfl
        · exact Or.inr rfl
      · rw [if_neg (by omega)]
        exact h z a b
    · unfold dgR
      rw [zup_ne (by decide)]
      exact h z a b
theorem erM_52 {M : Mem} (h : ∀ z : Int, 0 ≤ z → z < 144 → M 52 z = 0 ∨ M 52 z = 1) : ∀ z : Int, 0 ≤ z → z < 144 → erM M 52 z = 0 ∨ erM M 52 z = 1 :=
  zrep_inv (P := fun Q : Mem => ∀ z : Int, 0 ≤ z → z < 144 → Q 52 z = 0 ∨ Q 52 z = 1) (by unfold p0R; rw [zup_ne (by decide), zup_ne (by decide), zup_ne (by decide), zup_ne (by decide)]; exact h) _ (fun _ _ _ hx => zxR_52 hx)
theorem erM_q {M : Mem} (he : epT (M 42) (M 38 6).toNat = -6) : zmR (erM M) = zsq (M 42) (M 38 6).toNat := by
  unfold erM epN
  rw [if_pos he]
  exact (prR_P (ep_good he).1).2
theorem erM_bd {M : Mem} (he : epT (M 42) (M 38 6).toNat = -6) : 0 ≤ erM M 38 18 ∧ erM M 38 18 ≤ 11 ∧ 1 ≤ erM M 38 20 ∧ erM M 38 20 ≤ 12 := by
  have q := zsq_E he
  rw [← erM_q he] at q
  exact q
def rdB (M : Mem) : Mem := watR (zup (zup (recR (rwR (erM M))) 39 0 (erM M 38 18 + 1)) 39 1 (erM M 38 20)) 144
def rdM (M : Mem) : Mem := zup (rcR (rdB M) ((erM M 38 18 + 1) * erM M 38 20)) 38 6 0
theorem rwR_off {M : Mem} {k : Nat} (h : k ≠ 38) : rwR M k = M k := by
  unfold rwR
  rw [zup_ne h, zup_ne h, zup_ne h]
theorem rwR_f {M : Mem} {z : Int} (h : z < 18 ∨ 20 < z) : rwR M 38 z = M 38 z := by
  unfold rwR
  rw [zup_off (by omega), zup_off (by omega), zup_off (by omega)]
theorem rwR_RI {M : Mem} (h : RI M) : RI (rwR M) := by
  obtain ⟨a, b, c, d⟩ := h
  refine ⟨TbR_congr (rwR_off (by decide)) (rwR_off (by decide)) a, by rw [rwR_off (by decide)]; exact b, by rw [rwR_off (by decide)]; exact c, ?_⟩
  unfold HsR at *
  rw [rwR_f (by omega)]
  exact d
theorem rdQ_18 {M : Mem} : recR (rwR (erM M)) 38 18 = erM M 38 18 + 1 := by
  rw [recR_38 (by decide)]
  unfold rwR
  rw [zup_off (by decide), zup_at]
theorem rdQ_19 {M : Mem} : recR (rwR (erM M)) 38 19 = erM M 38 20 := by
  rw [recR_38 (by decide)]
  unfold rwR
  rw [zup_off (by decide), zup_off (by decide), zup_at]
theorem rdQ_52 {M : Mem} : recR (rwR (erM M)) 52 = erM M 52 := by
  rw [recR_off (by decide) (by decide), rwR_off (by decide)]
theorem rdB_o {M : Mem} {k : Nat} (h : k ≠ 39) : rdB M k = recR (rwR (erM M)) k := by
  unfold rdB
  rw [watR_off h, zup_ne h, zup_ne h]
theorem rdB_0 {M : Mem} : rdB M 39 0 = erM M 38 18 + 1 := by
  unfold rdB
  rw [watR_z (by omega), zup_off (by decide), zup_at]
theorem rdB_1 {M : Mem} : rdB M 39 1 = erM M 38 20 := by
  unfold rdB
  rw [watR_z (by omega), zup_at]
theorem rdB_2 {M : Mem} : rdB M 39 2 = M 39 2 := by
  unfold rdB
  rw [watR_z (by omega), zup_off (by decide), zup_off (by decide), recR_off (by decide) (by decide), rwR_off (by decide), erM_P.1 39 (by decide) (by decide)]
theorem rdB_t {M : Mem} {i : Int} (h : 0 ≤ i ∧ i < 144) : rdB M 39 (3 + i) = 0 ∧ rdB M 39 (147 + i) = -6 := by
  unfold rdB
  simp only [watR]
  grind
theorem rdB_19 {M : Mem} : rdB M 38 19 = erM M 38 20 := by rw [rdB_o (by decide)]; exact rdQ_19
theorem rdB_52 {M : Mem} : rdB M 52 = erM M 52 := by rw [rdB_o (by decide)]; exact rdQ_52
theorem rcR_t {M : Mem} {n i : Int} : rcR (rdB M) n 39 (3 + i) = if 0 ≤ i ∧ i < n then erM M 52 (12 * (i / erM M 38 20) + i % erM M 38 20) else rdB M 39 (3 + i) := by
  simp only [rcR]
  rw [rdB_52, rdB_19, show 3 + i - 3 = i by omega]
  by_cases h : 0 ≤ i ∧ i < n
  · rw [if_pos h, if_pos ⟨by trivial, by omega, by omega⟩]
  · rw [if_neg h, if_neg (fun q => h ⟨by have := q.2.1; omega, by have := q.2.2; omega⟩)]
theorem zRf_rd {M : Mem} (hR : RI M) (h52 : ∀ z : Int, 0 ≤ z → z < 144 → M 52 z = 0 ∨ M 52 z = 1) (he : epT (M 42) (M 38 6).toNat = -6) : zRf (rdM M 39) := by
  have b := erM_bd he
  have hw := zhw (h := erM M 38 18 + 1) (w := erM M 38 20) (by omega) (by omega) (by omega) (by omega)
  have e : rdM M 39 = rcR (rdB M) ((erM M 38 18 + 1) * erM M 38 20) 39 := zup_ne (by decide)
  rw [e]
  refine ⟨?_, ?_, ?_, ?_, ?_, fun i h0 h8 => ?_, fun i h0 h8 => Or.inl ?_⟩
  · rw [rcR_lo (by omega), rdB_0]; omega
  · rw [rcR_lo (by omega), rdB_0]; omega
  · rw [rcR_lo (by omega), rdB_1]; omega
  · rw [rcR_lo (by omega), rdB_1]; omega
  · rw [rcR_lo (by omega), rdB_2]; exact hR.2.1.2.2.2.2.1
  · rw [rcR_t]
    split
    · rename_i q
      have x := zkx q b.2.2.1
      exact erM_52 h52 _ (by omega) (by omega)
    · exact Or.inl (rdB_t ⟨h0, h8⟩).1
  · simp only [rcR]
    rw [if_neg (by omega)]
    exact (rdB_t ⟨h0, h8⟩).2
