/-! ===== what stands between two calls of the law: both sides hold the same ===== -/
def hsX (M : Mem) (j : Int) : TS := tsX M (M 32 j).toNat
def zsl9 (f : Int → Int) (j : Int) : Int → Int := fun z => f (291 * j + z)
def zgX (M : Mem) : Prop := XI M ∧ (M 27 4 = 0 ∨ M 27 4 = 1) ∧ (0 ≤ M 36 1 ∧ M 36 1 ≤ 80) ∧ ∀ z : Int, 0 ≤ z → z < 80 → 0 ≤ M 37 z ∧ M 37 z < 128
def zgR (M : Mem) : Prop := RI M ∧ (M 38 4 = 0 ∨ M 38 4 = 1) ∧ (M 38 4 = 1 → zRf (M 41) ∧ TOk (tsZ (M 41))) ∧ (∀ j : Int, 0 ≤ j → j < M 38 2 → zRf (zsl9 (M 40) j) ∧ TOk (tsZ (zsl9 (M 40) j))) ∧ (0 ≤ M 38 6 ∧ M 38 6 ≤ 80) ∧ (∀ z : Int, 0 ≤ z → z < 80 → 0 ≤ M 42 z ∧ M 42 z < 128) ∧ ∀ z : Int, 0 ≤ z → z < 144 → M 52 z = 0 ∨ M 52 z = 1
def zRel (M N : Mem) : Prop := tsX M 0 = tsZ (N 39) ∧ M 31 1 = N 38 2 ∧ (∀ j : Int, 0 ≤ j → j < M 31 1 → hsX M j = tsZ (zsl9 (N 40) j)) ∧ M 27 4 = N 38 4 ∧ (M 27 4 = 1 → tsX M 2 = tsZ (N 41)) ∧ M 36 1 = N 38 6 ∧ ∀ z : Int, 0 ≤ z → z < M 36 1 → M 37 z = N 42 z
def SR (M : Mem) : Prop := zgX M ∧ zgR M ∧ zRel M M
theorem XI_congr {M M' : Mem} (e : ∀ k : Nat, k < 33 → k ≠ 27 → M' k = M k) (h : XI M) : XI M' := by
  obtain ⟨h1, h2, h3⟩ := h
  refine ⟨?_, fun k hk => zSk_congr (e k (by omega) (by omega)) (e _ (by omega) (by omega)) (e _ (by omega) (by omega)) (h2 k hk), ?_⟩
  · unfold TbX
    rw [e 29 (by decide) (by decide), e 30 (by decide) (by decide)]
    exact h1
  · unfold HsX
    rw [e 31 (by decide) (by decide), e 32 (by decide) (by decide)]
    exact h3
theorem GX_congr {M M' : Mem} (e : ∀ k : Nat, k < 38 → k ≠ 33 → k ≠ 34 → k ≠ 35 → M' k = M k) (h : zgX M) : zgX M' := by
  obtain ⟨h1, h2, h3, h4⟩ := h
  refine ⟨XI_congr (fun k a b => e k (by omega) (by omega) (by omega) (by omega)) h1, ?_, ?_, ?_⟩
  · rw [e 27 (by decide) (by decide) (by decide) (by decide)]; exact h2
  · rw [e 36 (by decide) (by decide) (by decide) (by decide)]; exact h3
  · rw [e 37 (by decide) (by decide) (by decide) (by decide)]; exact h4
theorem hsX_in {M : Mem} (h : XI M) {j : Int} (h0 : 0 ≤ j) (h1 : j < M 31 1) : 3 ≤ (M 32 j).toNat ∧ (M 32 j).toNat ≤ 7 := by
  obtain ⟨-, -, g1, g2, g3, -⟩ := h
  have := g3 j h0 (by omega)
  omega
/-- the class's side of zRel -/
theorem Rel_X {M M' N : Mem} (hI : XI M) (e : ∀ k : Nat, k < 38 → k ≠ 33 → k ≠ 34 → k ≠ 35 → M' k = M k) (h : zRel M N) : zRel M' N := by
  have ee : ∀ k : Nat, k < 9 → tsX M' k = tsX M k := fun k hk => tsX_congr (e k (by omega) (by omega) (by omega) (by omega)) (e _ (by omega) (by omega) (by omega) (by omega)) (e _ (by omega) (by omega) (by omega) (by omega))
  obtain ⟨h1, h2, h3, h4, h5, h6, h7⟩ := h
  have e31 := e 31 (by decide) (by decide) (by decide) (by decide)
  have e27 := e 27 (by decide) (by decide) (by decide) (by decide)
  have e36 := e 36 (by decide) (by decide) (by decide) (by decide)
  have e37 := e 37 (by decide) (by decide) (by decide) (by decide)
  have e32 := e 32 (by decide) (by decide) (by decide) (by decide)
  unfold zRel
  rw [e31, e27, e36, e37, ee 0 (by decide), ee 2 (by decide)]
  refine ⟨h1, h2, fun j a b => ?_, h4, h5, h6, h7⟩
  have := hsX_in hI a b
  unfold hsX
  rw [e32, ee _ (by omega)]
  exact h3 j a b
/-- the reference's cells that matter -/
def eqR (M M' : Mem) : Prop := (∀ k : Nat, 38 < k → k ≠ 45 → k ≠ 46 → k ≠ 47 → k ≠ 48 → k ≠ 49 → k ≠ 50 → k ≠ 51 → k ≠ 52 → M' k = M k) ∧ (∀ z : Int, z ≠ 12 → z < 18 ∨ 21 < z → M' 38 z = M 38 z) ∧ ((∀ z : Int, 0 ≤ z → z < 144 → M 52 z = 0 ∨ M 52 z = 1) → ∀ z : Int, 0 ≤ z → z < 144 → M' 52 z = 0 ∨ M' 52 z = 1)
theorem RI_congr {M M' : Mem} (h39 : M' 39 = M 39) (h43 : M' 43 = M 43) (h44 : M' 44 = M 44) (h2 : M' 38 2 = M 38 2) (h : RI M) : RI M' := by
  obtain ⟨g1, g2, g3, g4⟩ := h
  refine ⟨TbR_congr h43 h44 g1, by rw [h39]; exact g2, by rw [h39]; exact g3, ?_⟩
  unfold HsR
  rw [h2]
  exact g4
theorem GR_congr {M M' : Mem} (e : eqR M M') (h : zgR M) : zgR M' := by
  obtain ⟨e1, e2, e3⟩ := e
  obtain ⟨h1, h2, h3, h4, h5, h6, h7⟩ := h
  have x39 := e1 39 (by decide) (by decide) (by decide) (by decide) (by decide) (by decide) (by decide) (by decide) (by decide)
  have x40 := e1 40 (by decide) (by decide) (by decide) (by decide) (by decide) (by decide) (by decide) (by decide) (by decide)
  have x41 := e1 41 (by decide) (by decide) (by decide) (by decide) (by decide) (by decide) (by decide) (by decide) (by decide)
  have x42 := e1 42 (by decide) (by decide) (by decide) (by decide) (by decide) (by decide) (by decide) (by decide) (by decide)
  have x43 := e1 43 (by decide) (by decide) (by decide) (by decide) (by decide) (by decide) (by decide) (by decide) (by decide)
  have x44 := e1 44 (by decide) (by decide) (by decide) (by decide) (by decide) (by decide) (by decide) (by decide) (by decide)
  have y2 := e2 2 (by decide) (by decide)
  have y4 := e2 4 (by decide) (by decide)
  have y6 := e2 6 (by decide) (by decide)
  unfold zgR
  rw [y2, y4, y6, x40, x41, x42]
  exact ⟨RI_congr x39 x43 x44 y2 h1, h2, h3, h4, h5, h6, e3 h7⟩
theorem Rel_R {M N N' : Mem} (e : eqR N N') (h : zRel M N) : zRel M N' := by
  obtain ⟨e1, e2, -⟩ := e
  have x39 := e1 39 (by decide) (by decide) (by decide) (by decide) (by decide) (by decide) (by decide) (by decide) (by decide)
  have x40 := e1 40 (by decide) (by decide) (by decide) (by decide) (by decide) (by decide) (by decide) (by decide) (by decide)
  have x41 := e1 41 (by decide) (by decide) (by decide) (by decide) (by decide) (by decide) (by decide) (by decide) (by decide)
  have x42 := e1 42 (by decide) (by decide) (by decide) (by decide) (by decide) (by decide) (by decide) (by decide) (by decide)
  have y2 := e2 2 (by decide) (by decide)
  have y4 := e2 4 (by decide) (by decide)
  have y6 := e2 6 (by decide) (by decide)
  unfold zRel
  rw [y2, y4, y6, x39, x40, x41, x42]
  exact h
/-- the two halves, put together -/
theorem SR_of {M1 M2 : Mem} (hX : zgX M1) (hR : zgR M2) (hl : zRel M1 M2) (e : ∀ k : Nat, k < 38 → M2 k = M1 k) : SR M2 :=
  ⟨GX_congr (fun k a _ _ _ => e k a) hX, hR, Rel_X hX.1 (fun k a _ _ _ => e k a) hl⟩
theorem eqR_rfl {M : Mem} : eqR M M := ⟨fun _ _ _ _ _ _ _ _ _ _ => rfl, fun _ _ _ => rfl, fun h => h⟩
theorem eqR_hi {M M' : Mem} (e : ∀ k : Nat, 38 ≤ k → M' k = M k) : eqR M M' := ⟨fun k a _ _ _ _ _ _ _ _ => e k (by omega), fun z _ _ => by rw [e 38 (by decide)], fun h z a b => by rw [e 52 (by decide)]; exact h z a b⟩
theorem eqR_tr {M M' M'' : Mem} (h1 : eqR M M') (h2 : eqR M' M'') : eqR M M'' := ⟨fun k a b c d e f g i j => (h2.1 k a b c d e f g i j).trans (h1.1 k a b c d e f g i j), fun z a b => (h2.2.1 z a b).trans (h1.2.1 z a b), fun h => h2.2.2 (h1.2.2 h)⟩
/-- a call that changes nothing that matters -/
theorem SR_q {M M1 M2 : Mem} (h : SR M) (e1 : ∀ k : Nat, k ≠ 33 → k ≠ 34 → k ≠ 35 → M1 k = M k) (e2 : eqR M1 M2) (e3 : ∀ k : Nat, k < 38 → M2 k = M1 k) : SR M2 := by
  obtain ⟨hX, hR, hl⟩ := h
  have g : eqR M M2 := eqR_tr (eqR_hi (fun k hk => e1 k (by omega) (by omega) (by omega))) e2
  exact SR_of (GX_congr (fun k _ a b c => e1 k a b c) hX) (GR_congr g hR) (Rel_R g (Rel_X hX.1 (fun k _ a b c => e1 k a b c) hl)) e3
/-! recording, on both sides -/
def zhsN (k : Int) (f : Int → TS) (t : TS) (j : Int) : TS := if 5 ≤ k then (if j < 4 then f (j + 1) else t) else (if j < k then f j else t)
def hsK (k : Int) : Int := if 5 ≤ k then 5 else k + 1
theorem recA_k {M : Mem} : recA M 31 1 + 1 = hsK (M 31 1) := by
  unfold recA hsK
  split
  · have : disM M 31 1 = 4 := by simp [disM]
    rw [this]; rfl
  · rfl
theorem recA_32 {M : Mem} {j : Int} (h0 : 0 ≤ j) (h1 : j < 5) : recA M 32 j = if 5 ≤ M 31 1 then M 32 (if j < 4 then j + 1 else 0) else M 32 j := by
  unfold recA
  by_cases h : 5 ≤ M 31 1
  · rw [if_pos h, if_pos h]
    simp only [disM]
    grind
  · rw [if_neg h, if_neg h]
theorem recM_h {M : Mem} (h : XI M) : recM M 31 1 = hsK (M 31 1) ∧ ∀ j : Int, 0 ≤ j → j < hsK (M 31 1) → hsX (recM M) j = zhsN (M 31 1) (hsX M) (tsX M 0) j := by
  obtain ⟨hT, hS, hH⟩ := h
  obtain ⟨⟨g1, g2, g3, g4⟩, g5⟩ := recA_H hH
  obtain ⟨f1, f2, f3, f4⟩ := hH
  have hk : recA M 31 1 + 1 = hsK (M 31 1) := recA_k
  have gj := g3 (recA M 31 1) g1 g5
  have hA : ∀ k : Nat, k < 9 → zSk (recA M) k := fun k hk => zSk_congr (recA_off (by omega) (by omega)) (recA_off (by omega) (by omega)) (recA_off (by omega) (by omega)) (hS k hk)
  have tA : ∀ k : Nat, k < 9 → tsX (recA M) k = tsX M k := fun k hk => tsX_congr (recA_off (by omega) (by omega)) (recA_off (by omega) (by omega)) (recA_off (by omega) (by omega))
  have e32 : recM M 32 = recA M 32 := by
    unfold recM
    rw [zup_ne (by decide), copM_offf (by omega) (by omega) (by omega)]
  have tR : ∀ k : Nat, k < 9 → tsX (recM M) k = tsX (copM (recA M) (recA M 32 (recA M 31 1)).toNat 0 144) k := fun k hk => by
    unfold recM
    exact tsX_congr (zup_ne (by omega)) (zup_ne (by omega)) (zup_ne (by omega))
  refine ⟨?_, fun j h0 h1 => ?_⟩
  · rw [← hk]
    exact zup_at _ _ _ _
  · rw [← hk] at h1
    have hj := g3 j h0 (by omega)
    unfold hsX
    rw [e32, tR _ (by omega)]
    by_cases q : j = recA M 31 1
    · rw [q, tsX_copM (hA 0 (by decide)), tA 0 (by decide)]
      have hk2 := hk
      unfold hsK at hk2
      unfold zhsN
      by_cases w : 5 ≤ M 31 1
      · rw [if_pos w] at hk2 ⊢
        rw [if_neg (by omega)]
      · rw [if_neg w] at hk2 ⊢
        rw [if_neg (by omega)]
    · have hne : recA M 32 j ≠ recA M 32 (recA M 31 1) := fun z => q (g4 j _ h0 (by omega) g1 g5 z)
      rw [tsX_congr (copM_offf (by omega) (by omega) (by omega)) (copM_offf (by omega) (by omega) (by omega)) (copM_offf (by omega) (by omega) (by omega)), tA _ (by omega), recA_32 h0 (by omega)]
      have hk2 := hk
      unfold hsK at hk2
      unfold zhsN
      by_cases w : 5 ≤ M 31 1
      · rw [if_pos w] at hk2
        rw [if_pos w, if_pos w, if_pos (by omega), if_pos (by omega)]
      · rw [if_neg w] at hk2
        rw [if_neg w, if_neg w, if_pos (by omega)]
theorem recR_h {M : Mem} (hH : HsR M) (hZ : zRf (M 39)) (hP : ∀ j : Int, 0 ≤ j → j < M 38 2 → zRf (zsl9 (M 40) j)) : recR M 38 2 = hsK (M 38 2) ∧ ∀ j : Int, 0 ≤ j → j < hsK (M 38 2) → zRf (zsl9 (recR M 40) j) ∧ tsZ (zsl9 (recR M 40) j) = zhsN (M 38 2) (fun j => tsZ (zsl9 (M 40) j)) (tsZ (M 39)) j := by
  have hB := recB_H hH
  obtain ⟨f1, f2⟩ := hH
  have hk : recB M 38 2 + 1 = hsK (M 38 2) := by
    unfold recB hsK
    by_cases w : M 38 2 = 5
    · rw [if_pos w, if_pos (by omega), zup_at]; rfl
    · rw [if_neg w, if_neg (by omega)]
  have e39 : recB M 39 = M 39 := recB_off (by decide) (by decide)
  have e40 : ∀ z : Int, recR M 40 z = if recB M 38 2 * 291 ≤ z ∧ z < recB M 38 2 * 291 + 291 then M 39 (z - recB M 38 2 * 291) else recB M 40 z := fun z => by
    unfold recR
    rw [zup_ne (by decide)]
    simp only [mvR, e39]
    by_cases w : recB M 38 2 * 291 ≤ z ∧ z < recB M 38 2 * 291 + 291
    · rw [if_pos ⟨trivial, w⟩, if_pos w, Int.zero_add]
    · rw [if_neg (fun q => w q.2), if_neg w]
  have b40 : ∀ z : Int, 0 ≤ z → z < 1164 → recB M 40 z = if M 38 2 = 5 then M 40 (z + 291) else M 40 z := fun z a b => by
    unfold recB
    by_cases w : M 38 2 = 5
    · rw [if_pos w, if_pos w, zup_ne (by decide)]
      simp only [shR]
      rw [if_pos ⟨trivial, a, b⟩]
    · rw [if_neg w, if_neg w]
  refine ⟨?_, fun j h0 h1 => ?_⟩
  · rw [← hk]
    exact zup_at _ _ _ _
  · rw [← hk] at h1
    by_cases q : j = recB M 38 2
    · have ex : ∀ z : Int, 0 ≤ z → z < 291 → zsl9 (recR M 40) j z = M 39 z := fun z a b => by
        show recR M 40 (291 * j + z) = _
        rw [e40, if_pos (by omega)]
        congr 1
        omega
      refine ⟨zRf_ext ex hZ, (tsZ_ext ex hZ).trans ?_⟩
      have hk2 := hk
      unfold hsK at hk2
      unfold zhsN
      by_cases w : 5 ≤ M 38 2
      · rw [if_pos w] at hk2 ⊢
        rw [if_neg (by omega)]
      · rw [if_neg w] at hk2 ⊢
        rw [if_neg (by omega)]
    · have hk2 := hk
      unfold hsK at hk2
      by_cases w : 5 ≤ M 38 2
      · rw [if_pos w] at hk2
        have ex : ∀ z : Int, 0 ≤ z → z < 291 → zsl9 (recR M 40) j z = zsl9 (M 40) (j + 1) z := fun z a b => by
          show recR M 40 (291 * j + z) = M 40 (291 * (j + 1) + z)
          rw [e40, if_neg (by omega), b40 _ (by omega) (by omega), if_pos (by omega)]
          congr 1
          omega
        have hz := hP (j + 1) (by omega) (by omega)
        refine ⟨zRf_ext ex hz, (tsZ_ext ex hz).trans ?_⟩
        unfold zhsN
        rw [if_pos w, if_pos (by omega)]
      · rw [if_neg w] at hk2
        have ex : ∀ z : Int, 0 ≤ z → z < 291 → zsl9 (recR M 40) j z = zsl9 (M 40) j z := fun z a b => by
          show recR M 40 (291 * j + z) = M 40 (291 * j + z)
          rw [e40, if_neg (by omega), b40 _ (by omega) (by omega), if_neg (by omega)]
        have hz := hP j (by omega) (by omega)
        refine ⟨zRf_ext ex hz, (tsZ_ext ex hz).trans ?_⟩
        unfold zhsN
        rw [if_neg w, if_pos (by omega)]
/-- a call that records, and changes the map -/
theorem SR_rec {M M1 M2 : Mem} (h : SR M) (e1 : ∀ k : Nat, k ≠ 0 → k ≠ 9 → k ≠ 18 → k ≠ 1 → k ≠ 10 → k ≠ 19 → k ≠ 33 → k ≠ 34 → k ≠ 35 → M1 k = recM M k) (s0 : zSk M1 0) (s1 : zSk M1 1)
    (e2 : ∀ k : Nat, k ≠ 38 → k ≠ 39 → k ≠ 45 → k ≠ 46 → k ≠ 47 → k ≠ 48 → k ≠ 49 → k ≠ 50 → M2 k = recR M1 k) (e4 : ∀ z : Int, z ≠ 12 → M2 38 z = recR M1 38 z) (hz : zRf (M2 39)) (ho : TOk (tsZ (M2 39))) (ht : tsX M1 0 = tsZ (M2 39)) : SR M2 := by
  obtain ⟨⟨hI, x1, x2, x3⟩, ⟨hRI, r1, r2, r3, r4, r5, r6⟩, l1, l2, l3, l4, l5, l6, l7⟩ := h
  have hI2 := recM_XI hI
  obtain ⟨hT, hS, hH⟩ := hI2
  have hHo := hI.2.2
  have hXm := recM_h hI
  have hoff : ∀ k : Nat, 38 ≤ k → M1 k = M k := fun k hk => (e1 k (by omega) (by omega) (by omega) (by omega) (by omega) (by omega) (by omega) (by omega) (by omega)).trans (recM_off hHo (by omega) (by omega) (by omega))
  have i31 := e1 31 (by decide) (by decide) (by decide) (by decide) (by decide) (by decide) (by decide) (by decide) (by decide)
  have i32 := e1 32 (by decide) (by decide) (by decide) (by decide) (by decide) (by decide) (by decide) (by decide) (by decide)
  have i27 := (e1 27 (by decide) (by decide) (by decide) (by decide) (by decide) (by decide) (by decide) (by decide) (by decide)).trans (recM_off hHo (by decide) (by decide) (by omega))
  have i36 := (e1 36 (by decide) (by decide) (by decide) (by decide) (by decide) (by decide) (by decide) (by decide) (by decide)).trans (recM_off hHo (by decide) (by decide) (by omega))
  have i37 := (e1 37 (by decide) (by decide) (by decide) (by decide) (by decide) (by decide) (by decide) (by decide) (by decide)).trans (recM_off hHo (by decide) (by decide) (by omega))
  have ek : ∀ k : Nat, 2 ≤ k → k < 9 → M1 k = recM M k ∧ M1 (k + 9) = recM M (k + 9) ∧ M1 (k + 18) = recM M (k + 18) := fun k a b => ⟨e1 k (by omega) (by omega) (by omega) (by omega) (by omega) (by omega) (by omega) (by omega) (by omega), e1 _ (by omega) (by omega) (by omega) (by omega) (by omega) (by omega) (by omega) (by omega) (by omega), e1 _ (by omega) (by omega) (by omega) (by omega) (by omega) (by omega) (by omega) (by omega) (by omega)⟩
  have hX1 : XI M1 := by
    refine ⟨?_, fun k hk => ?_, ?_⟩
    · unfold TbX
      rw [e1 29 (by decide) (by decide) (by decide) (by decide) (by decide) (by decide) (by decide) (by decide) (by decide), e1 30 (by decide) (by decide) (by decide) (by decide) (by decide) (by decide) (by decide) (by decide) (by decide)]
      exact hT
    · by_cases k0 : k = 0
      · rw [k0]; exact s0
      · by_cases k1 : k = 1
        · rw [k1]; exact s1
        · have := ek k (by omega) hk
          exact zSk_congr this.1 this.2.1 this.2.2 (hS k hk)
    · unfold HsX
      rw [i31, i32]
      exact hH
  have hGX : zgX M1 := ⟨hX1, by rw [i27]; exact x1, by rw [i36]; exact x2, by rw [i37]; exact x3⟩
  have hRI1 : RI M1 := RI_congr (hoff 39 (by decide)) (hoff 43 (by decide)) (hoff 44 (by decide)) (by rw [hoff 38 (by decide)]) hRI
  have hRr := recR_h (M := M1) hRI1.2.2.2 hRI1.2.1 (fun j a b => by rw [hoff 38 (by decide)] at b; rw [hoff 40 (by decide)]; exact (r3 j a b).1)
  rw [hoff 38 (by decide), hoff 40 (by decide), hoff 39 (by decide)] at hRr
  have j40 := e2 40 (by decide) (by decide) (by decide) (by decide) (by decide) (by decide) (by decide) (by decide)
  have off2 : ∀ k : Nat, k ≠ 38 → k ≠ 40 → k ≠ 39 → k ≠ 45 → k ≠ 46 → k ≠ 47 → k ≠ 48 → k ≠ 49 → k ≠ 50 → M2 k = M1 k := fun k a b c d e f g i j => (e2 k a c d e f g i j).trans (recR_off a b)
  have j41 : M2 41 = M 41 := (off2 41 (by decide) (by decide) (by decide) (by decide) (by decide) (by decide) (by decide) (by decide) (by decide)).trans (hoff 41 (by decide))
  have j42 : M2 42 = M 42 := (off2 42 (by decide) (by decide) (by decide) (by decide) (by decide) (by decide) (by decide) (by decide) (by decide)).trans (hoff 42 (by decide))
  have j43 : M2 43 = M1 43 := off2 43 (by decide) (by decide) (by decide) (by decide) (by decide) (by decide) (by decide) (by decide) (by decide)
  have j44 : M2 44 = M1 44 := off2 44 (by decide) (by decide) (by decide) (by decide) (by decide) (by decide) (by decide) (by decide) (by decide)
  have j52 : M2 52 = M 52 := (off2 52 (by decide) (by decide) (by decide) (by decide) (by decide) (by decide) (by decide) (by decide) (by decide)).trans (hoff 52 (by decide))
  have y2 : M2 38 2 = hsK (M 38 2) := (e4 2 (by decide)).trans hRr.1
  have y4 : M2 38 4 = M 38 4 := (e4 4 (by decide)).trans ((recR_38 (by decide)).trans (by rw [hoff 38 (by decide)]))
  have y6 : M2 38 6 = M 38 6 := (e4 6 (by decide)).trans ((recR_38 (by decide)).trans (by rw [hoff 38 (by decide)]))
  have hkb : ∀ k : Int, 0 ≤ k ∧ k ≤ 5 → 0 ≤ hsK k ∧ hsK k ≤ 5 := fun k hk => by unfold hsK; split <;> omega
  have hTN : ∀ j : Int, 0 ≤ j → j < hsK (M 38 2) → TOk (tsZ (zsl9 (M2 40) j)) := fun j a b => by
    rw [j40, (hRr.2 j a b).2]
    have hb := hRI.2.2.2
    unfold HsR at hb
    unfold hsK at b
    unfold zhsN
    split
    · rename_i w
      rw [if_pos w] at b
      split
      · exact (r3 _ (by omega) (by omega)).2
      · exact hRI.2.2.1
    · rename_i w
      rw [if_neg w] at b
      split
      · exact (r3 _ (by omega) (by omega)).2
      · exact hRI.2.2.1
  have hGR : zgR M2 := by
    unfold zgR
    rw [y2, y4, y6, j41, j42, j52]
    refine ⟨⟨TbR_congr j43 j44 hRI1.1, hz, ho, ?_⟩, r1, r2, fun j a b => ⟨?_, hTN j a b⟩, r4, r5, r6⟩
    · unfold HsR
      rw [y2]
      exact hkb _ hRI.2.2.2
    · rw [j40]
      exact (hRr.2 j a b).1
  have hRel : zRel M1 M2 := by
    unfold zRel
    rw [i31, i27, i36, i37, y2, y4, y6, j41, j42, hXm.1]
    refine ⟨ht, by rw [l2], fun j a b => ?_, l4, fun w => ?_, l6, l7⟩
    · have e5 : hsX M1 j = hsX (recM M) j := by
        have b2 := b
        rw [← hXm.1] at b2
        have := hsX_in (recM_XI hI) a b2
        unfold hsX
        rw [i32]
        have k3 := ek (recM M 32 j).toNat (by omega) (by omega)
        exact tsX_congr k3.1 k3.2.1 k3.2.2
      rw [e5, hXm.2 j a b, j40, (hRr.2 j a (by rw [← l2]; exact b)).2, ← l2]
      have hb := hI.2.2
      unfold HsX at hb
      unfold hsK at b
      unfold zhsN
      split
      · rename_i w
        rw [if_pos w] at b
        split
        · exact l3 _ (by omega) (by omega)
        · exact l1
      · rename_i w
        rw [if_neg w] at b
        split
        · exact l3 _ (by omega) (by omega)
        · exact l1
    · have k3 := ek 2 (by decide) (by decide)
      rw [tsX_congr k3.1 k3.2.1 k3.2.2]
      exact (tsX_congr (recM_off hHo (by decide) (by decide) (by omega)) (recM_off hHo (by decide) (by decide) (by omega)) (recM_off hHo (by decide) (by decide) (by omega))).trans (l5 w)
  exact SR_of hGX hGR hRel (fun k hk => off2 k (by omega) (by omega) (by omega) (by omega) (by omega) (by omega) (by omega) (by omega) (by omega))
