/-! ===== append, clearText, undo, save, errorPosition ===== -/
theorem zop_append {M : Mem} (h : SR M) (x : Int) : zgR (xM_append M x) ∧ rR_append (xM_append M x) x = xR_append M x ∧ SR (rM_append (xM_append M x) x) := by
  obtain ⟨⟨hI, x1, x2, x3⟩, hR, hl⟩ := h
  have hR' := hR
  obtain ⟨hRI, r1, r2, r3, r4, r5, r6⟩ := hR'
  obtain ⟨l1, l2, l3, l4, l5, l6, l7⟩ := id hl
  have hlo : ∀ k : Nat, k ≠ 36 → k ≠ 37 → xM_append M x k = M k := fun k a b => by
    unfold xM_append addM
    split
    · split
      · rw [zup_ne a, zup_ne b]
      · rfl
    · rfl
  have hg : zgR (xM_append M x) := zgR_hi hR (fun k hk => hlo k (by omega) (by omega))
  have e38 : xM_append M x 38 = M 38 := hlo 38 (by decide) (by decide)
  refine ⟨hg, ?_, ?_⟩
  · unfold rR_append xR_append
    rw [e38, l6]
  · by_cases hc : 33 ≤ x ∧ x ≤ 126
    · by_cases hn : M 36 1 < 80
      · have hQ : xM_append M x = zup (zup M 37 (M 36 1) x) 36 1 (M 36 1 + 1) := by unfold xM_append addM; rw [if_pos hc, if_pos hn]
        generalize xM_append M x = Q at hlo hg e38 hQ ⊢
        have cc : 33 ≤ x ∧ x ≤ 126 ∧ Q 38 6 < 80 := ⟨hc.1, hc.2, by rw [e38, ← l6]; exact hn⟩
        have eM : rM_append Q x = zup (zup Q 42 (Q 38 6) x) 38 6 (Q 38 6 + 1) := by unfold rM_append; rw [if_pos cc]
        have q42 : Q 42 = M 42 := hlo 42 (by decide) (by decide)
        have q36 : Q 36 1 = M 36 1 + 1 := by rw [hQ]; exact zup_at _ _ _ _
        have q37 : ∀ z : Int, Q 37 z = if z = M 36 1 then x else M 37 z := fun z => by
          rw [hQ, zup_ne (by decide)]
          by_cases w : z = M 36 1
          · rw [if_pos w, w, zup_at]
          · rw [if_neg w, zup_off w]
        have m42 : ∀ z : Int, rM_append Q x 42 z = if z = M 36 1 then x else M 42 z := fun z => by
          rw [eM, zup_ne (by decide), e38, ← l6]
          by_cases w : z = M 36 1
          · rw [if_pos w, w, zup_at]
          · rw [if_neg w, zup_off w, q42]
        have m6 : rM_append Q x 38 6 = M 36 1 + 1 := by rw [eM, zup_at, e38, ← l6]
        have m38 : ∀ z : Int, z ≠ 6 → rM_append Q x 38 z = M 38 z := fun z hz => by rw [eM, zup_off hz, zup_ne (by decide), e38]
        have mk : ∀ k : Nat, k ≠ 38 → k ≠ 42 → rM_append Q x k = Q k := fun k a b => by rw [eM, zup_ne a, zup_ne b]
        have ml : ∀ k : Nat, k ≠ 38 → k ≠ 42 → k ≠ 36 → k ≠ 37 → rM_append Q x k = M k := fun k a b c d => (mk k a b).trans (hlo k c d)
        have hX2 : zgX Q := by
          refine ⟨XI_congr (fun k a b => hlo k (by omega) (by omega)) hI, by rw [hlo 27 (by decide) (by decide)]; exact x1, by rw [q36]; omega, fun z a b => ?_⟩
          rw [q37]
          split
          · omega
          · exact x3 z a b
        have hR2 : zgR (rM_append Q x) := by
          unfold zgR
          rw [m6, m38 4 (by decide), m38 2 (by decide), ml 40 (by decide) (by decide) (by decide) (by decide), ml 41 (by decide) (by decide) (by decide) (by decide), ml 52 (by decide) (by decide) (by decide) (by decide)]
          refine ⟨RI_congr (ml 39 (by decide) (by decide) (by decide) (by decide)) (ml 43 (by decide) (by decide) (by decide) (by decide)) (ml 44 (by decide) (by decide) (by decide) (by decide)) (m38 2 (by decide)) hRI, r1, r2, r3, by omega, fun z a b => ?_, r6⟩
          rw [m42]
          split
          · omega
          · exact r5 z a b
        have tq : ∀ k : Nat, k < 9 → tsX Q k = tsX M k := fun k hk => tsX_congr (hlo k (by omega) (by omega)) (hlo _ (by omega) (by omega)) (hlo _ (by omega) (by omega))
        have hl2 : zRel Q (rM_append Q x) := by
          unfold zRel
          rw [tq 0 (by decide), tq 2 (by decide), hlo 31 (by decide) (by decide), hlo 27 (by decide) (by decide), q36, m6, m38 4 (by decide), m38 2 (by decide), ml 39 (by decide) (by decide) (by decide) (by decide), ml 40 (by decide) (by decide) (by decide) (by decide), ml 41 (by decide) (by decide) (by decide) (by decide)]
          refine ⟨l1, l2, fun j a b => ?_, l4, l5, rfl, fun z a b => ?_⟩
          · have := hsX_in hI a b
            unfold hsX
            rw [hlo 32 (by decide) (by decide), tq _ (by omega)]
            exact l3 j a b
          · rw [q37, m42]
            by_cases w : z = M 36 1
            · rw [if_pos w, if_pos w]
            · rw [if_neg w, if_neg w]
              exact l7 z a (by omega)
        exact SR_of hX2 hR2 hl2 (fun k hk => mk k (by omega) (by omega))
      · have hQ : xM_append M x = M := by unfold xM_append addM; rw [if_pos hc, if_neg hn]
        rw [hQ]
        unfold rM_append
        rw [if_neg (fun z => hn (by rw [l6]; exact z.2.2))]
        exact ⟨⟨hI, x1, x2, x3⟩, hR, hl⟩
    · have hQ : xM_append M x = M := by unfold xM_append; rw [if_neg hc]
      rw [hQ]
      unfold rM_append
      rw [if_neg (fun z => hc ⟨z.1, z.2.1⟩)]
      exact ⟨⟨hI, x1, x2, x3⟩, hR, hl⟩
/-- the text is emptied, on both sides -/
theorem clear_X {M N : Mem} (hX : zgX M) (hl : zRel M N) : zgX (zup M 36 1 0) ∧ zRel (zup M 36 1 0) (zup N 38 6 0) := by
  obtain ⟨hI, x1, x2, x3⟩ := hX
  obtain ⟨l1, l2, l3, l4, l5, l6, l7⟩ := hl
  have tq : ∀ k : Nat, k < 9 → tsX (zup M 36 1 0) k = tsX M k := fun k hk => tsX_congr (zup_ne (by omega)) (zup_ne (by omega)) (zup_ne (by omega))
  have n38 : ∀ z : Int, z ≠ 6 → zup N 38 6 0 38 z = N 38 z := fun z hz => zup_off hz
  refine ⟨⟨XI_congr (fun k a b => zup_ne (by omega)) hI, by rw [zup_ne (by decide)]; exact x1, by rw [zup_at]; omega, by rw [zup_ne (by decide)]; exact x3⟩, ?_⟩
  unfold zRel
  rw [tq 0 (by decide), tq 2 (by decide), zup_ne (M := M) (i := 31) (by decide), zup_ne (M := M) (i := 27) (by decide), zup_at, zup_at, n38 2 (by decide), n38 4 (by decide), zup_ne (M := N) (i := 39) (by decide), zup_ne (M := N) (i := 40) (by decide), zup_ne (M := N) (i := 41) (by decide)]
  refine ⟨l1, l2, fun j a b => ?_, l4, l5, rfl, fun z a b => by omega⟩
  have := hsX_in hI a b
  unfold hsX
  rw [zup_ne (M := M) (i := 32) (by decide), tq _ (by omega)]
  exact l3 j a b
theorem clear_R {N : Mem} (hR : zgR N) : zgR (zup N 38 6 0) := by
  obtain ⟨hRI, r1, r2, r3, r4, r5, r6⟩ := hR
  have n38 : ∀ z : Int, z ≠ 6 → zup N 38 6 0 38 z = N 38 z := fun z hz => zup_off hz
  unfold zgR
  rw [zup_at, n38 4 (by decide), n38 2 (by decide), zup_ne (i := 40) (by decide), zup_ne (i := 41) (by decide), zup_ne (i := 42) (by decide), zup_ne (i := 52) (by decide)]
  exact ⟨RI_congr (zup_ne (by decide)) (zup_ne (by decide)) (zup_ne (by decide)) (n38 2 (by decide)) hRI, r1, r2, r3, by omega, r5, r6⟩
theorem zop_clearText {M : Mem} (h : SR M) : zgR (xM_clearText M) ∧ rR_clearText (xM_clearText M) = xR_clearText M ∧ SR (rM_clearText (xM_clearText M)) := by
  have hg : zgR (xM_clearText M) := zgR_hi h.2.1 (fun k hk => zup_ne (by omega))
  have e38 : xM_clearText M 38 = M 38 := zup_ne (by decide)
  refine ⟨hg, ?_, ?_⟩
  · show xM_clearText M 38 6 = M 36 1
    rw [e38]
    exact h.2.2.2.2.2.2.2.1.symm
  · have g := clear_X h.1 h.2.2
    have g2 : zRel (xM_clearText M) (zup (xM_clearText M) 38 6 0) := by
      obtain ⟨l1, l2, l3, l4, l5, l6, l7⟩ := g.2
      have f : ∀ k : Nat, 38 < k → zup (xM_clearText M) 38 6 0 k = zup M 38 6 0 k := fun k hk => by rw [zup_ne (by omega), zup_ne (by omega)]; exact zup_ne (by omega)
      have f38 : ∀ z : Int, zup (xM_clearText M) 38 6 0 38 z = zup M 38 6 0 38 z := fun z => by
        by_cases w : z = 6
        · rw [w, zup_at, zup_at]
        · rw [zup_off w, zup_off w, e38]
      unfold zRel
      rw [f38, f38, f38, f 39 (by decide), f 40 (by decide), f 41 (by decide), f 42 (by decide)]
      exact ⟨l1, l2, l3, l4, l5, l6, l7⟩
    exact SR_of g.1 (clear_R hg) g2 (fun k hk => zup_ne (by omega))
theorem zop_undo {M : Mem} (h : SR M) : zgR (xM_undo M) ∧ rR_undo (xM_undo M) = xR_undo M ∧ SR (rM_undo (xM_undo M)) := by
  obtain ⟨⟨hI, x1, x2, x3⟩, hR, hl⟩ := h
  have hR' := hR
  obtain ⟨hRI, r1, r2, r3, r4, r5, r6⟩ := hR'
  obtain ⟨l1, l2, l3, l4, l5, l6, l7⟩ := id hl
  obtain ⟨hT, hS, hH⟩ := id hI
  obtain ⟨k1, k2, k3, k4⟩ := id hH
  by_cases hc : 1 ≤ M 31 1
  · have hj := k3 (M 31 1 - 1) (by omega) (by omega)
    have hQ : xM_undo M = tkM M := by unfold xM_undo; rw [if_pos hc]
    have tz : ∀ k : Nat, k < 9 → tsX (zup M 31 1 (M 31 1 - 1)) k = tsX M k := fun k hk => tsX_congr (zup_ne (by omega)) (zup_ne (by omega)) (zup_ne (by omega))
    have hSz : zSk (zup M 31 1 (M 31 1 - 1)) (M 32 (M 31 1 - 1)).toNat := zSk_congr (zup_ne (by omega)) (zup_ne (by omega)) (zup_ne (by omega)) (hS _ (by omega))
    have hlo : ∀ k : Nat, k ≠ 0 → k ≠ 9 → k ≠ 18 → k ≠ 31 → xM_undo M k = M k := fun k a b c d => by
      rw [hQ]
      exact (copM_offf a b c).trans (zup_ne d)
    have e31 : xM_undo M 31 1 = M 31 1 - 1 := by
      rw [hQ]
      exact (copM_off (by decide) (by decide) (by decide)).trans (zup_at _ _ _ _)
    have hg : zgR (xM_undo M) := zgR_hi hR (fun k hk => hlo k (by omega) (by omega) (by omega) (by omega))
    have t0 : tsX (xM_undo M) 0 = hsX M (M 31 1 - 1) := by
      rw [hQ]
      exact (tsX_copM hSz).trans (tz _ (by omega))
    have s0 : zSk (xM_undo M) 0 := by rw [hQ]; exact zSk_copM hSz
    generalize xM_undo M = Q at hlo e31 hg t0 s0 ⊢
    have e38 : Q 38 = M 38 := hlo 38 (by decide) (by decide) (by decide) (by decide)
    have e40 : Q 40 = M 40 := hlo 40 (by decide) (by decide) (by decide) (by decide)
    have c2 : ¬ Q 38 2 = 0 := by rw [e38, ← l2]; omega
    have eM : rM_undo Q = unR Q := by unfold rM_undo; rw [if_neg c2]
    have eR : rR_undo Q = Q 38 2 - 1 := by unfold rR_undo; rw [if_neg c2]
    have hz9 := r3 (M 31 1 - 1) (by omega) (by omega)
    have ex : ∀ z : Int, 0 ≤ z → z < 291 → unR Q 39 z = zsl9 (M 40) (M 31 1 - 1) z := fun z a b => by
      unfold unR
      rw [mvR_at (by omega), zup_ne (by decide), e40, e38, ← l2]
      show M 40 _ = M 40 (291 * (M 31 1 - 1) + z)
      congr 1
      omega
    have mk : ∀ k : Nat, k ≠ 38 → k ≠ 39 → unR Q k = Q k := fun k a b => by
      unfold unR
      exact (funext fun z => mvR_off b).trans (zup_ne a)
    have m38 : ∀ z : Int, z ≠ 2 → unR Q 38 z = M 38 z := fun z hz => by
      unfold unR
      rw [mvR_off (by decide), zup_off hz, e38]
    have m2 : unR Q 38 2 = M 38 2 - 1 := by
      unfold unR
      rw [mvR_off (by decide), zup_at, e38]
    have ml : ∀ k : Nat, 39 < k → unR Q k = M k := fun k hk => (mk k (by omega) (by omega)).trans (hlo k (by omega) (by omega) (by omega) (by omega))
    rw [eM]
    refine ⟨hg, ?_, ?_⟩
    · rw [eR, e38, ← l2]
      unfold xR_undo
      rw [if_pos hc]
    · have hX2 : zgX Q := by
        refine ⟨⟨?_, fun k hk => ?_, ?_⟩, by rw [hlo 27 (by decide) (by decide) (by decide) (by decide)]; exact x1, by rw [hlo 36 (by decide) (by decide) (by decide) (by decide)]; exact x2, by rw [hlo 37 (by decide) (by decide) (by decide) (by decide)]; exact x3⟩
        · unfold TbX
          rw [hlo 29 (by decide) (by decide) (by decide) (by decide), hlo 30 (by decide) (by decide) (by decide) (by decide)]
          exact hT
        · by_cases w : k = 0
          · rw [w]; exact s0
          · exact zSk_congr (hlo k (by omega) (by omega) (by omega) (by omega)) (hlo _ (by omega) (by omega) (by omega) (by omega)) (hlo _ (by omega) (by omega) (by omega) (by omega)) (hS k hk)
        · unfold HsX
          rw [e31, hlo 32 (by decide) (by decide) (by decide) (by decide)]
          exact ⟨by omega, by omega, k3, k4⟩
      have hR2 : zgR (unR Q) := by
        unfold zgR
        rw [m38 4 (by decide), m38 6 (by decide), m2, ml 40 (by decide), ml 41 (by decide), ml 42 (by decide), ml 52 (by decide)]
        refine ⟨⟨TbR_congr (ml 43 (by decide)) (ml 44 (by decide)) hRI.1, zRf_ext ex hz9.1, by rw [tsZ_ext ex hz9.1]; exact hz9.2, ?_⟩, r1, r2, fun j a b => r3 j a (by omega), r4, r5, r6⟩
        unfold HsR
        rw [m2]
        have := hRI.2.2.2
        unfold HsR at this
        omega
      have tq : ∀ k : Nat, 1 ≤ k → k < 9 → tsX Q k = tsX M k := fun k h1 hk => tsX_congr (hlo k (by omega) (by omega) (by omega) (by omega)) (hlo _ (by omega) (by omega) (by omega) (by omega)) (hlo _ (by omega) (by omega) (by omega) (by omega))
      have hl2 : zRel Q (unR Q) := by
        unfold zRel
        rw [t0, tq 2 (by decide) (by decide), e31, hlo 27 (by decide) (by decide) (by decide) (by decide), hlo 36 (by decide) (by decide) (by decide) (by decide), hlo 37 (by decide) (by decide) (by decide) (by decide), m38 4 (by decide), m38 6 (by decide), m2, ml 40 (by decide), ml 41 (by decide), ml 42 (by decide), tsZ_ext ex hz9.1]
        refine ⟨l3 _ (by omega) (by omega), by omega, fun j a b => ?_, l4, l5, l6, l7⟩
        have := hsX_in hI a (by omega)
        unfold hsX
        rw [hlo 32 (by decide) (by decide) (by decide) (by decide), tq _ (by omega) (by omega)]
        exact l3 j a (by omega)
      exact SR_of hX2 hR2 hl2 (fun k hk => mk k (by omega) (by omega))
  · have hQ : xM_undo M = M := by unfold xM_undo; rw [if_neg hc]
    rw [hQ]
    have c2 : M 38 2 = 0 := by rw [← l2]; omega
    refine ⟨hR, ?_, ?_⟩
    · unfold rR_undo xR_undo
      rw [if_pos c2, if_neg hc]
    · unfold rM_undo
      rw [if_pos c2]
      exact ⟨⟨hI, x1, x2, x3⟩, hR, hl⟩
theorem zop_save {M : Mem} (h : SR M) : zgR (xM_save M) ∧ rR_save (xM_save M) = xR_save M ∧ SR (rM_save (xM_save M)) := by
  obtain ⟨⟨hI, x1, x2, x3⟩, hR, hl⟩ := h
  have hR' := hR
  obtain ⟨hRI, r1, r2, r3, r4, r5, r6⟩ := hR'
  obtain ⟨l1, l2, l3, l4, l5, l6, l7⟩ := id hl
  obtain ⟨hT, hS, hH⟩ := id hI
  have hlo : ∀ k : Nat, k ≠ 2 → k ≠ 11 → k ≠ 20 → k ≠ 27 → xM_save M k = M k := fun k a b c d => (zup_ne d).trans (copM_offf a b c)
  have e27 : xM_save M 27 4 = 1 := zup_at _ _ _ _
  have hg : zgR (xM_save M) := zgR_hi hR (fun k hk => hlo k (by omega) (by omega) (by omega) (by omega))
  have s2 : zSk (xM_save M) 2 := zSk_congr (zup_ne (by decide)) (zup_ne (by decide)) (zup_ne (by decide)) (zSk_copM (hS 0 (by decide)))
  have t2 : tsX (xM_save M) 2 = tsX M 0 := (tsX_congr (zup_ne (by decide)) (zup_ne (by decide)) (zup_ne (by decide))).trans (tsX_copM (hS 0 (by decide)))
  have eA : rR_save (xM_save M) = xR_save M := by
    show lnT (tsZ (xM_save M 39)) = lnT (tsX M 0)
    rw [hlo 39 (by decide) (by decide) (by decide) (by decide), l1]
  generalize xM_save M = Q at hlo e27 hg s2 t2 eA ⊢
  have e38 : Q 38 = M 38 := hlo 38 (by decide) (by decide) (by decide) (by decide)
  have e39 : Q 39 = M 39 := hlo 39 (by decide) (by decide) (by decide) (by decide)
  have ex : ∀ z : Int, 0 ≤ z → z < 291 → svR Q 41 z = M 39 z := fun z a b => by
    unfold svR
    rw [mvR_at (by omega), zup_ne (by decide), e39]
    congr 1
    omega
  have mk : ∀ k : Nat, k ≠ 38 → k ≠ 41 → svR Q k = Q k := fun k a b => by
    unfold svR
    exact (funext fun z => mvR_off b).trans (zup_ne a)
  have m38 : ∀ z : Int, z ≠ 4 → svR Q 38 z = M 38 z := fun z hz => by
    unfold svR
    rw [mvR_off (by decide), zup_off hz, e38]
  have m4 : svR Q 38 4 = 1 := by
    unfold svR
    rw [mvR_off (by decide), zup_at]
    rfl
  have ml : ∀ k : Nat, 38 < k → k ≠ 41 → svR Q k = M k := fun k hk h2 => (mk k (by omega) h2).trans (hlo k (by omega) (by omega) (by omega) (by omega))
  refine ⟨hg, eA, ?_⟩
  show SR (svR Q)
  have hX2 : zgX Q := by
    refine ⟨⟨?_, fun k hk => ?_, ?_⟩, Or.inr e27, by rw [hlo 36 (by decide) (by decide) (by decide) (by decide)]; exact x2, by rw [hlo 37 (by decide) (by decide) (by decide) (by decide)]; exact x3⟩
    · unfold TbX
      rw [hlo 29 (by decide) (by decide) (by decide) (by decide), hlo 30 (by decide) (by decide) (by decide) (by decide)]
      exact hT
    · by_cases w : k = 2
      · rw [w]; exact s2
      · exact zSk_congr (hlo k (by omega) (by omega) (by omega) (by omega)) (hlo _ (by omega) (by omega) (by omega) (by omega)) (hlo _ (by omega) (by omega) (by omega) (by omega)) (hS k hk)
    · unfold HsX
      rw [hlo 31 (by decide) (by decide) (by decide) (by decide), hlo 32 (by decide) (by decide) (by decide) (by decide)]
      exact hH
  have hR2 : zgR (svR Q) := by
    unfold zgR
    rw [m4, m38 6 (by decide), m38 2 (by decide), ml 40 (by decide) (by decide), ml 42 (by decide) (by decide), ml 52 (by decide) (by decide)]
    exact ⟨RI_congr (ml 39 (by decide) (by decide)) (ml 43 (by decide) (by decide)) (ml 44 (by decide) (by decide)) (m38 2 (by decide)) hRI, Or.inr rfl, fun _ => ⟨zRf_ext ex hRI.2.1, by rw [tsZ_ext ex hRI.2.1]; exact hRI.2.2.1⟩, r3, r4, r5, r6⟩
  have tq : ∀ k : Nat, k ≠ 2 → k < 9 → tsX Q k = tsX M k := fun k h1 hk => tsX_congr (hlo k (by omega) (by omega) (by omega) (by omega)) (hlo _ (by omega) (by omega) (by omega) (by omega)) (hlo _ (by omega) (by omega) (by omega) (by omega))
  have hl2 : zRel Q (svR Q) := by
    unfold zRel
    rw [t2, tq 0 (by decide) (by decide), e27, hlo 31 (by decide) (by decide) (by decide) (by decide), hlo 36 (by decide) (by decide) (by decide) (by decide), hlo 37 (by decide) (by decide) (by decide) (by decide), m4, m38 6 (by decide), m38 2 (by decide), ml 39 (by decide) (by decide), ml 40 (by decide) (by decide), ml 42 (by decide) (by decide), tsZ_ext ex hRI.2.1]
    refine ⟨l1, l2, fun j a b => ?_, rfl, fun _ => l1, l6, l7⟩
    have := hsX_in hI a b
    unfold hsX
    rw [hlo 32 (by decide) (by decide) (by decide) (by decide), tq _ (by omega) (by omega)]
    exact l3 j a b
  exact SR_of hX2 hR2 hl2 (fun k hk => mk k (by omega) (by omega))
/-! errorPosition -/
theorem zsq_congr {f g : Int → Int} : ∀ {n : Nat}, (∀ j : Nat, j < n → f j = g j) → zsq f n = zsq g n
  | 0, _ => rfl
  | n + 1, h => by
    show zxS (f n) (zsq f n) = zxS (g n) (zsq g n)
    rw [h n (Nat.lt_succ_self n), zsq_congr (fun j hj => h j (Nat.lt_succ_of_lt hj))]
theorem epE_congr {f g : Int → Int} : ∀ {n : Nat}, (∀ j : Nat, j < n → f j = g j) → zrep (epE f) n (-6) = zrep (epE g) n (-6)
  | 0, _ => rfl
  | n + 1, h => by
    have ih := epE_congr (fun j hj => h j (Nat.lt_succ_of_lt hj))
    show epE f n (zrep (epE f) n (-6)) = epE g n (zrep (epE g) n (-6))
    rw [ih]
    unfold epE
    rw [h n (Nat.lt_succ_self n), zsq_congr (fun j hj => h j (Nat.lt_succ_of_lt hj))]
theorem epT_congr {f g : Int → Int} {n : Nat} (h : ∀ j : Nat, j < n → f j = g j) : epT f n = epT g n ∧ epN f n = epN g n := by
  have e : epT f n = epT g n := by
    unfold epT
    rw [epE_congr h, zsq_congr h]
  exact ⟨e, by unfold epN; rw [e]⟩
theorem SR_txt {M : Mem} (h : SR M) : (M 36 1).toNat = (M 38 6).toNat ∧ ∀ j : Nat, j < (M 36 1).toNat → M 37 j = M 42 j :=
  ⟨by rw [h.2.2.2.2.2.2.2.1], fun j hj => h.2.2.2.2.2.2.2.2 j (by omega) (by omega)⟩
theorem paX_g {M N : Mem} (hX : zgX M) (hl : zRel M N) : zgX (paX M) ∧ zRel (paX M) N := by
  obtain ⟨hI, x1, x2, x3⟩ := hX
  have ho := (hI.2.1 8 (by decide)).2.2.2.2.1
  obtain ⟨p1, p2, p3, p4⟩ := paX_P (M := M) ho
  have hk : ∀ k : Nat, k ≠ 17 → k ≠ 26 → k ≠ 36 → k ≠ 8 → paX M k = M k := p3
  have h36 := p4 1 (by omega)
  refine ⟨⟨paX_XI hI, by rw [hk 27 (by decide) (by decide) (by decide) (by decide)]; exact x1, by rw [h36]; exact x2, by rw [hk 37 (by decide) (by decide) (by decide) (by decide)]; exact x3⟩, ?_⟩
  obtain ⟨l1, l2, l3, l4, l5, l6, l7⟩ := hl
  have tq : ∀ k : Nat, k < 8 → tsX (paX M) k = tsX M k := fun k h => tsX_congr (hk k (by omega) (by omega) (by omega) (by omega)) (hk _ (by omega) (by omega) (by omega) (by omega)) (hk _ (by omega) (by omega) (by omega) (by omega))
  unfold zRel
  rw [tq 0 (by decide), tq 2 (by decide), h36, hk 31 (by decide) (by decide) (by decide) (by decide), hk 27 (by decide) (by decide) (by decide) (by decide), hk 37 (by decide) (by decide) (by decide) (by decide)]
  refine ⟨l1, l2, fun j a b => ?_, l4, l5, l6, l7⟩
  have := hsX_in hI a b
  unfold hsX
  rw [hk 32 (by decide) (by decide) (by decide) (by decide), tq _ (by omega)]
  exact l3 j a b
theorem paX_hi {M : Mem} (hX : zgX M) : ∀ k : Nat, 38 ≤ k → paX M k = M k := fun k hk => (paX_P (M := M) (hX.1.2.1 8 (by decide)).2.2.2.2.1).2.2.1 k (by omega) (by omega) (by omega) (by omega)
theorem prI_eq {M Q : Mem} (h : prI M Q) (h52 : (∀ z : Int, 0 ≤ z → z < 144 → M 52 z = 0 ∨ M 52 z = 1) → ∀ z : Int, 0 ≤ z → z < 144 → Q 52 z = 0 ∨ Q 52 z = 1) : eqR M Q := ⟨fun k a _ _ _ _ _ _ _ b => h.1 k (by omega) b, fun z _ a => h.2 z a, h52⟩
theorem zop_errorPosition {M : Mem} (h : SR M) : zgR (xM_errorPosition M) ∧ rR_errorPosition (xM_errorPosition M) = xR_errorPosition M ∧ SR (rM_errorPosition (xM_errorPosition M)) := by
  have hg : zgR (xM_errorPosition M) := zgR_hi h.2.1 (paX_hi h.1)
  have g := paX_g h.1 h.2.2
  have hhi := paX_hi h.1
  have ht := SR_txt h
  refine ⟨hg, ?_, ?_⟩
  · show epT (paX M 42) (paX M 38 6).toNat = epT (M 37) (M 36 1).toNat
    rw [hhi 42 (by decide), hhi 38 (by decide), ← ht.1]
    exact (epT_congr ht.2).1.symm
  · have e2 : eqR (xM_errorPosition M) (erM (xM_errorPosition M)) := prI_eq erM_P (fun w => erM_52 w)
    have e3 : eqR M (xM_errorPosition M) := eqR_hi hhi
    exact SR_of g.1 (GR_congr e2 hg) (Rel_R e2 (Rel_R e3 g.2)) (fun k hk => (erM_P (M := xM_errorPosition M)).1 k (by omega) (by omega))
