/-! ===== the neighbours of a place, in the class's cells ===== -/
theorem bsX_k {l : Bool} {m0 : Nat} {M0 M : Mem} {i : Nat} (h : sxI l m0 M0 M) (hi : (i : Int) < M 33 2) : (bsX M).1 ((bsX M).2.1 i).1 ((bsX M).2.1 i).2 = M 35 (M 34 i) := by
  have g := h.2.2.2.2 i (by omega) hi
  show (if 0 ≤ M 34 i / 12 ∧ M 34 i / 12 < 12 ∧ 0 ≤ M 34 i % 12 ∧ M 34 i % 12 < 12 then M 35 (M 34 i / 12 * 12 + M 34 i % 12) else -1) = _
  rw [if_pos (by omega), show M 34 i / 12 * 12 + M 34 i % 12 = M 34 i by omega]
theorem nbX_P {l : Bool} {m0 : Nat} {M0 M : Mem} {e i : Nat} (hS : zSk M0 0) (h : sxI l m0 M0 M) (hi : (i : Int) < M 33 2) : ∀ n : Nat, sxI l m0 M0 (nbX M l e i n) ∧ M 33 2 ≤ nbX M l e i n 33 2 ∧ bsX (nbX M l e i n) = zbW (tsX M0 0) l e i n (bsX M)
  | 0 => ⟨h, Int.le_refl _, rfl⟩
  | n + 1 => by
    obtain ⟨p1, p2, p3⟩ := nbX_P (e := e) hS h hi n
    have ek := bsX_k h hi
    have g := h.1.2.1 i (by show i < (M 33 2).toNat; omega)
    rw [ek] at g
    have ht := sxI_ts h
    show sxI l m0 M0 (if laT (tsX M 0) (M 34 i / 12 + zrow ((e * n : Nat) : Int)) (M 34 i % 12 + zcol ((e * n : Nat) : Int)) = l then rhX (nbX M l e i n) (M 34 i / 12 + zrow ((e * n : Nat) : Int)) (M 34 i % 12 + zcol ((e * n : Nat) : Int)) (M 35 (M 34 i) + 1) else nbX M l e i n)
      ∧ M 33 2 ≤ (if laT (tsX M 0) (M 34 i / 12 + zrow ((e * n : Nat) : Int)) (M 34 i % 12 + zcol ((e * n : Nat) : Int)) = l then rhX (nbX M l e i n) (M 34 i / 12 + zrow ((e * n : Nat) : Int)) (M 34 i % 12 + zcol ((e * n : Nat) : Int)) (M 35 (M 34 i) + 1) else nbX M l e i n) 33 2
      ∧ bsX (if laT (tsX M 0) (M 34 i / 12 + zrow ((e * n : Nat) : Int)) (M 34 i % 12 + zcol ((e * n : Nat) : Int)) = l then rhX (nbX M l e i n) (M 34 i / 12 + zrow ((e * n : Nat) : Int)) (M 34 i % 12 + zcol ((e * n : Nat) : Int)) (M 35 (M 34 i) + 1) else nbX M l e i n)
        = zbE (tsX M0 0) l (M 34 i / 12) (M 34 i % 12) ((bsX M).1 ((bsX M).2.1 i).1 ((bsX M).2.1 i).2 + 1) ((e * n : Nat) : Int) (zbW (tsX M0 0) l e i n (bsX M))
    rw [ek, ht, ← p3]
    unfold zbE
    by_cases q : laT (tsX M0 0) (M 34 i / 12 + zrow ((e * n : Nat) : Int)) (M 34 i % 12 + zcol ((e * n : Nat) : Int)) = l
    · rw [if_pos q, if_pos q]
      have hk : M 35 (M 34 i) + 1 ≤ M 33 2 := by have := g.2.2.2; omega
      have s := sxI_rh (k := M 35 (M 34 i) + 1) hS q ⟨by have := g.2.2.1; omega, by omega⟩ p1
      have eb := bsX_rh (r := M 34 i / 12 + zrow ((e * n : Nat) : Int)) (c := M 34 i % 12 + zcol ((e * n : Nat) : Int)) (k := M 35 (M 34 i) + 1) (sxI_S p1 hS) p1.2.1
      rw [sxI_ts p1] at eb
      refine ⟨s, ?_, eb⟩
      have z : (bsX (nbX M l e i n)).2.2.1 ≤ (bsX (rhX (nbX M l e i n) (M 34 i / 12 + zrow ((e * n : Nat) : Int)) (M 34 i % 12 + zcol ((e * n : Nat) : Int)) (M 35 (M 34 i) + 1))).2.2.1 := by
        rw [eb]
        exact zbK_R.1
      have z2 : (nbX M l e i n 33 2).toNat ≤ (rhX (nbX M l e i n) (M 34 i / 12 + zrow ((e * n : Nat) : Int)) (M 34 i % 12 + zcol ((e * n : Nat) : Int)) (M 35 (M 34 i) + 1) 33 2).toNat := z
      have := p1.2.1
      omega
    · rw [if_neg q, if_neg q]
      exact ⟨p1, p2, rfl⟩
