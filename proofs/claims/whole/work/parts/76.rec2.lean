/-! ===== recording, the two sides apart ===== -/
theorem SR_rec2 {M N M1 M2 : Mem} (hX : zgX M) (hR : zgR N) (hl : zRel M N) (e1 : ∀ k : Nat, k ≠ 0 → k ≠ 9 → k ≠ 18 → k ≠ 1 → k ≠ 10 → k ≠ 19 → k ≠ 33 → k ≠ 34 → k ≠ 35 → M1 k = recM M k) (s0 : zSk M1 0) (s1 : zSk M1 1)
    (e2 : ∀ k : Nat, k ≠ 38 → k ≠ 39 → k ≠ 45 → k ≠ 46 → k ≠ 47 → k ≠ 48 → k ≠ 49 → k ≠ 50 → M2 k = recR N k) (e4 : ∀ z : Int, z ≠ 12 → M2 38 z = recR N 38 z) (hz : zRf (M2 39)) (ho : TOk (tsZ (M2 39))) (ht : tsX M1 0 = tsZ (M2 39)) : zgX M1 ∧ zgR M2 ∧ zRel M1 M2 := by
  obtain ⟨hI, x1, x2, x3⟩ := hX
  obtain ⟨hRI, r1, r2, r3, r4, r5, r6⟩ := hR
  obtain ⟨l1, l2, l3, l4, l5, l6, l7⟩ := hl
  have hI2 := recM_XI hI
  obtain ⟨hT, hS, hH⟩ := hI2
  have hHo := hI.2.2
  have hXm := recM_h hI
  have i31 := e1 31 (by decide) (by decide) (by decide) (by decide) (by decide) (by decide) (by decide) (by decide) (by decide)
  have i32 := e1 32 (by decide) (by decide) (by decide) (by decide) (by decide) (by decide) (by decide) (by decide) (by decide)
  have i27 := (e1 27 (by decide) (by decide) (by decide) (by decide) (by decide) (by decide) (by decide) (by decide) (by decide)).trans (recM_off hHo (by decide) (by decide) (by omega))
  have i36 := (e1 36 (by decide) (by decide) (by decide) (by decide) (by decide) (by decide) (by decide) (by decide) (by decide)).trans (recM_off hHo (by decide) (by decide) (by omega))
  have i37 := (e1 37 (by decide) (by decide) (by decide) (by decide) (by decide) (by decide) (by decide) (by decide) (by decide)).trans (recM_off hHo (by decide) (by decide) (by omega))
  have ek : ∀ k : Nat, 2 ≤ k → k < 9 → M1 k = recM M k ∧ M1 (k + 9) = recM M (k + 9) ∧ M1 (k + 18) = recM M (k + 18) := fun k a b => ⟨e1 k (by omega) (by omega) (by omega) (by omega) (by omega) (by omega) (by omega) (by omega) (by omega), e1 _ (by omega) (by omega) (by omega) (by omega) (by omega) (by omega) (by omega) (by omega) (by omega), e1 _ (by omega) (by omega) (by omega) (by omega) (by omega) (by omega) (by omega) (by omega) (by omega)⟩
  have hX1 : XI M1 := by
    refine ⟨?_, fun k hk => ?_, ?_⟩
    · unfold TbX
      rw [e1 29 (by decide) (by decide) (by decide) (by decide) (by decide) (by decide) (by decide) (by decide) (by decide), e1 30 (by decide) (by decide) (by decide) (by decide) (by decide) (by decide) (by decide) (by decide) (by decide)]
      exact hT
    · by_cases k0 : k = 0
      · rw [k0]; exact s0
      · by_cases k1 : k = 1
        · rw [k1]; exact s1
        · have := ek k (by omega) hk
          exact zSk_congr this.1 this.2.1 this.2.2 (hS k hk)
    · unfold HsX
      rw [i31, i32]
      exact hH
  have hGX : zgX M1 := ⟨hX1, by rw [i27]; exact x1, by rw [i36]; exact x2, by rw [i37]; exact x3⟩
  have hRI1 := hRI
  have hRr := recR_h (M := N) hRI.2.2.2 hRI.2.1 (fun j a b => (r3 j a b).1)
  have j40 := e2 40 (by decide) (by decide) (by decide) (by decide) (by decide) (by decide) (by decide) (by decide)
  have off2 : ∀ k : Nat, k ≠ 38 → k ≠ 40 → k ≠ 39 → k ≠ 45 → k ≠ 46 → k ≠ 47 → k ≠ 48 → k ≠ 49 → k ≠ 50 → M2 k = N k := fun k a b c d e f g i j => (e2 k a c d e f g i j).trans (recR_off a b)
  have j41 : M2 41 = N 41 := off2 41 (by decide) (by decide) (by decide) (by decide) (by decide) (by decide) (by decide) (by decide) (by decide)
  have j42 : M2 42 = N 42 := off2 42 (by decide) (by decide) (by decide) (by decide) (by decide) (by decide) (by decide) (by decide) (by decide)
  have j43 : M2 43 = N 43 := off2 43 (by decide) (by decide) (by decide) (by decide) (by decide) (by decide) (by decide) (by decide) (by decide)
  have j44 : M2 44 = N 44 := off2 44 (by decide) (by decide) (by decide) (by decide) (by decide) (by decide) (by decide) (by decide) (by decide)
  have j52 : M2 52 = N 52 := off2 52 (by decide) (by decide) (by decide) (by decide) (by decide) (by decide) (by decide) (by decide) (by decide)
  have y2 : M2 38 2 = hsK (N 38 2) := (e4 2 (by decide)).trans hRr.1
  have y4 : M2 38 4 = N 38 4 := (e4 4 (by decide)).trans (recR_38 (by decide))
  have y6 : M2 38 6 = N 38 6 := (e4 6 (by decide)).trans (recR_38 (by decide))
  have hkb : ∀ k : Int, 0 ≤ k ∧ k ≤ 5 → 0 ≤ hsK k ∧ hsK k ≤ 5 := fun k hk => by unfold hsK; split <;> omega
  have hTN : ∀ j : Int, 0 ≤ j → j < hsK (N 38 2) → TOk (tsZ (zsl9 (M2 40) j)) := fun j a b => by
    rw [j40, (hRr.2 j a b).2]
    have hb := hRI.2.2.2
    unfold HsR at hb
    unfold hsK at b
    unfold zhsN
    split
    · rename_i w
      rw [if_pos w] at b
      split
      · exact (r3 _ (by omega) (by omega)).2
      · exact hRI.2.2.1
    · rename_i w
      rw [if_neg w] at b
      split
      · exact (r3 _ (by omega) (by omega)).2
      · exact hRI.2.2.1
  have hGR : zgR M2 := by
    unfold zgR
    rw [y2, y4, y6, j41, j42, j52]
    refine ⟨⟨TbR_congr j43 j44 hRI1.1, hz, ho, ?_⟩, r1, r2, fun j a b => ⟨?_, hTN j a b⟩, r4, r5, r6⟩
    · unfold HsR
      rw [y2]
      exact hkb _ hRI.2.2.2
    · rw [j40]
      exact (hRr.2 j a b).1
  have hRel : zRel M1 M2 := by
    unfold zRel
    rw [i31, i27, i36, i37, y2, y4, y6, j41, j42, hXm.1]
    refine ⟨ht, by rw [l2], fun j a b => ?_, l4, fun w => ?_, l6, l7⟩
    · have e5 : hsX M1 j = hsX (recM M) j := by
        have b2 := b
        rw [← hXm.1] at b2
        have := hsX_in (recM_XI hI) a b2
        unfold hsX
        rw [i32]
        have k3 := ek (recM M 32 j).toNat (by omega) (by omega)
        exact tsX_congr k3.1 k3.2.1 k3.2.2
      rw [e5, hXm.2 j a b, j40, (hRr.2 j a (by rw [← l2]; exact b)).2, ← l2]
      have hb := hI.2.2
      unfold HsX at hb
      unfold hsK at b
      unfold zhsN
      split
      · rename_i w
        rw [if_pos w] at b
        split
        · exact l3 _ (by omega) (by omega)
        · exact l1
      · rename_i w
        rw [if_neg w] at b
        split
        · exact l3 _ (by omega) (by omega)
        · exact l1
    · have k3 := ek 2 (by decide) (by decide)
      rw [tsX_congr k3.1 k3.2.1 k3.2.2]
      exact (tsX_congr (recM_off hHo (by decide) (by decide) (by omega)) (recM_off hHo (by decide) (by decide) (by omega)) (recM_off hHo (by decide) (by decide) (by omega))).trans (l5 w)
  exact ⟨hGX, hGR, hRel⟩
