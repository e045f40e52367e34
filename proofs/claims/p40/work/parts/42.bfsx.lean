/-! ===== spreading in the class's cells ===== -/
def bsX (M : Mem) : zBs := (fun r c => if 0 ≤ r ∧ r < 12 ∧ 0 ≤ c ∧ c < 12 then M 35 (r * 12 + c) else -1, fun n => (M 34 n / 12, M 34 n % 12), (M 33 2).toNat, decide (M 33 3 = 1))
def rhA (M : Mem) (r c k : Int) : Mem := zup (zup (zup M 35 (r * 12 + c) k) 34 (M 33 2) (r * 12 + c)) 33 2 (M 33 2 + 1)
def rhX (M : Mem) (r c k : Int) : Mem := if inT (tsX M 0) r c = true ∧ M 35 (r * 12 + c) = -1 then (if zbEd (tsX M 0) r c = true then zup (rhA M r c k) 33 3 (zbz true) else rhA M r c k) else M
theorem rhX_off {M : Mem} {r c k : Int} {i : Nat} (h1 : i ≠ 33) (h2 : i ≠ 34) (h3 : i ≠ 35) : rhX M r c k i = M i := by
  unfold rhX
  split
  · split
    · unfold rhA; rw [zup_ne h1, zup_ne h1, zup_ne h2, zup_ne h3]
    · unfold rhA; rw [zup_ne h1, zup_ne h2, zup_ne h3]
  · rfl
theorem zBs_ext {a b : zBs} (h1 : ∀ r c, a.1 r c = b.1 r c) (h2 : ∀ n, a.2.1 n = b.2.1 n) (h3 : a.2.2.1 = b.2.2.1) (h4 : a.2.2.2 = b.2.2.2) : a = b := by
  obtain ⟨a1, a2, a3, a4⟩ := a
  obtain ⟨b1, b2, b3, b4⟩ := b
  dsimp only at h1 h2 h3 h4
  rw [show a1 = b1 from funext fun r => funext fun c => h1 r c, show a2 = b2 from funext h2, h3, h4]
theorem bsX_rh {M : Mem} {r c k : Int} (hS : zSk M 0) (hq : 0 ≤ M 33 2) : bsX (rhX M r c k) = zbR (tsX M 0) r c k (bsX M) := by
  obtain ⟨a1, a2, a3, a4, -⟩ := hS
  unfold zbR rhX
  by_cases hi : inT (tsX M 0) r c = true
  · have hb := hi
    rw [inT_X] at hb
    have hb := of_decide_eq_true hb
    have hr : 0 ≤ r ∧ r < 12 ∧ 0 ≤ c ∧ c < 12 := by omega
    have e0 : (bsX M).1 r c = M 35 (r * 12 + c) := if_pos hr
    by_cases hs : M 35 (r * 12 + c) = -1
    · rw [if_pos (show inT (tsX M 0) r c = true ∧ M 35 (r * 12 + c) = -1 from ⟨hi, hs⟩), if_pos (show inT (tsX M 0) r c = true ∧ (bsX M).1 r c = -1 from ⟨hi, e0.trans hs⟩)]
      refine zBs_ext (fun r' c' => ?_) (fun n => ?_) ?_ ?_
      · show (if 0 ≤ r' ∧ r' < 12 ∧ 0 ≤ c' ∧ c' < 12 then (if zbEd (tsX M 0) r c = true then zup (rhA M r c k) 33 3 (zbz true) else rhA M r c k) 35 (r' * 12 + c') else -1) = (if r' = r ∧ c' = c then k else if 0 ≤ r' ∧ r' < 12 ∧ 0 ≤ c' ∧ c' < 12 then M 35 (r' * 12 + c') else -1)
        have e : (if zbEd (tsX M 0) r c = true then zup (rhA M r c k) 33 3 (zbz true) else rhA M r c k) 35 = (zup M 35 (r * 12 + c) k) 35 := by
          split
          · rw [zup_ne (by decide)]; unfold rhA; rw [zup_ne (by decide), zup_ne (by decide)]
          · unfold rhA; rw [zup_ne (by decide), zup_ne (by decide)]
        rw [e]
        by_cases q : r' = r ∧ c' = c
        · rw [if_pos q, q.1, q.2, if_pos hr, zup_at]
        · rw [if_neg q]
          by_cases z : 0 ≤ r' ∧ r' < 12 ∧ 0 ≤ c' ∧ c' < 12
          · rw [if_pos z, if_pos z, zup_off (by omega)]
          · rw [if_neg z, if_neg z]
      · have e : (if zbEd (tsX M 0) r c = true then zup (rhA M r c k) 33 3 (zbz true) else rhA M r c k) 34 = (zup M 34 (M 33 2) (r * 12 + c)) 34 := by
          split
          · rw [zup_ne (by decide)]; unfold rhA; rw [zup_ne (by decide)]; funext z; simp [zup]
          · unfold rhA; rw [zup_ne (by decide)]; funext z; simp [zup]
        show ((if zbEd (tsX M 0) r c = true then zup (rhA M r c k) 33 3 (zbz true) else rhA M r c k) 34 n / 12, (if zbEd (tsX M 0) r c = true then zup (rhA M r c k) 33 3 (zbz true) else rhA M r c k) 34 n % 12) = (if n = (M 33 2).toNat then (r, c) else (M 34 n / 12, M 34 n % 12))
        rw [e]
        by_cases q : n = (M 33 2).toNat
        · rw [if_pos q, show ((n : Nat) : Int) = M 33 2 by omega, zup_at, show (r * 12 + c) / 12 = r by omega, show (r * 12 + c) % 12 = c by omega]
        · rw [if_neg q, zup_off (by omega)]
      · have e : (if zbEd (tsX M 0) r c = true then zup (rhA M r c k) 33 3 (zbz true) else rhA M r c k) 33 2 = M 33 2 + 1 := by
          split
          · rw [zup_off (by decide)]; exact zup_at _ _ _ _
          · exact zup_at _ _ _ _
        show ((if zbEd (tsX M 0) r c = true then zup (rhA M r c k) 33 3 (zbz true) else rhA M r c k) 33 2).toNat = (M 33 2).toNat + 1
        rw [e]
        omega
      · show decide ((if zbEd (tsX M 0) r c = true then zup (rhA M r c k) 33 3 (zbz true) else rhA M r c k) 33 3 = 1) = (decide (M 33 3 = 1) || zbEd (tsX M 0) r c)
        cases he : zbEd (tsX M 0) r c
        · rw [if_neg (by decide), Bool.or_false]
          unfold rhA
          rw [zup_off (by decide), zup_ne (by decide), zup_ne (by decide)]
        · rw [if_pos rfl, zup_at, Bool.or_true]
          rfl
    · rw [if_neg (show ¬ (inT (tsX M 0) r c = true ∧ M 35 (r * 12 + c) = -1) from fun q => hs q.2), if_neg (show ¬ (inT (tsX M 0) r c = true ∧ (bsX M).1 r c = -1) from fun q => hs (e0.symm.trans q.2))]
  · rw [if_neg (show ¬ (inT (tsX M 0) r c = true ∧ M 35 (r * 12 + c) = -1) from fun q => hi q.1), if_neg (show ¬ (inT (tsX M 0) r c = true ∧ (bsX M).1 r c = -1) from fun q => hi q.1)]
/-- the neighbours of place i of the queue -/
def nbX (M : Mem) (l : Bool) (e i n : Nat) : Mem := zrep (fun (j : Nat) (Q : Mem) => if laT (tsX M 0) (M 34 i / 12 + zrow ((e * j : Nat) : Int)) (M 34 i % 12 + zcol ((e * j : Nat) : Int)) = l then rhX Q (M 34 i / 12 + zrow ((e * j : Nat) : Int)) (M 34 i % 12 + zcol ((e * j : Nat) : Int)) (M 35 (M 34 i) + 1) else Q) n M
/-- the class's Spread, while it spreads -/
def sxI (l : Bool) (m0 : Nat) (M0 M : Mem) : Prop := zbI (tsX M0 0) l m0 (bsX M) ∧ 0 ≤ M 33 2 ∧ (M 33 3 = 0 ∨ M 33 3 = 1) ∧ (∀ k : Nat, k ≠ 33 → k ≠ 34 → k ≠ 35 → M k = M0 k) ∧ (∀ i : Int, 0 ≤ i → i < M 33 2 → 0 ≤ M 34 i ∧ M 34 i < 144)
theorem sxI_ts {l : Bool} {m0 : Nat} {M0 M : Mem} (h : sxI l m0 M0 M) : tsX M 0 = tsX M0 0 := tsX_congr (h.2.2.2.1 0 (by decide) (by decide) (by decide)) (h.2.2.2.1 9 (by decide) (by decide) (by decide)) (h.2.2.2.1 18 (by decide) (by decide) (by decide))
theorem sxI_S {l : Bool} {m0 : Nat} {M0 M : Mem} (h : sxI l m0 M0 M) (hS : zSk M0 0) : zSk M 0 := zSk_congr (h.2.2.2.1 0 (by decide) (by decide) (by decide)) (h.2.2.2.1 9 (by decide) (by decide) (by decide)) (h.2.2.2.1 18 (by decide) (by decide) (by decide)) hS
theorem sxI_rh {l : Bool} {m0 : Nat} {M0 M : Mem} {r c k : Int} (hS : zSk M0 0) (hl : laT (tsX M0 0) r c = l) (hk : 0 ≤ k ∧ k ≤ M 33 2) (h : sxI l m0 M0 M) : sxI l m0 M0 (rhX M r c k) := by
  have ht := sxI_ts h
  have hS' := sxI_S h hS
  obtain ⟨h1, h2, h3, h4, h5⟩ := h
  have hz := zbI_R (t := tsX M0 0) (k := k) ⟨hS.2.1, hS.2.2.2.1⟩ hl ⟨hk.1, by show k ≤ (((M 33 2).toNat : Nat) : Int); omega⟩ h1
  have eb := bsX_rh (r := r) (c := c) (k := k) hS' h2
  rw [ht] at eb
  rw [← eb] at hz
  refine ⟨hz, ?_, ?_, fun j a b d => (rhX_off a b d).trans (h4 j a b d), ?_⟩
  · unfold rhX
    split
    · split
      · rw [zup_off (by decide)]; unfold rhA; rw [zup_at]; omega
      · unfold rhA; rw [zup_at]; omega
    · exact h2
  · unfold rhX
    split
    · split
      · rw [zup_at]; exact Or.inr rfl
      · unfold rhA; rw [zup_off (by decide), zup_ne (by decide), zup_ne (by decide)]; exact h3
    · exact h3
  · intro i a b
    unfold rhX at b ⊢
    split
    · rename_i q
      rw [if_pos q] at b
      have hb := q.1
      rw [inT_X] at hb
      have hb := of_decide_eq_true hb
      obtain ⟨a1, a2, a3, a4, -⟩ := hS'
      have e3 : (if zbEd (tsX M 0) r c = true then zup (rhA M r c k) 33 3 (zbz true) else rhA M r c k) 33 2 = M 33 2 + 1 := by
        split
        · rw [zup_off (by decide)]; exact zup_at _ _ _ _
        · exact zup_at _ _ _ _
      have e4 : (if zbEd (tsX M 0) r c = true then zup (rhA M r c k) 33 3 (zbz true) else rhA M r c k) 34 i = (zup M 34 (M 33 2) (r * 12 + c)) 34 i := by
        split
        · rw [zup_ne (by decide)]; unfold rhA; rw [zup_ne (by decide)]; simp [zup]
        · unfold rhA; rw [zup_ne (by decide)]; simp [zup]
      rw [e3] at b
      rw [e4]
      by_cases z : i = M 33 2
      · rw [z, zup_at]; omega
      · rw [zup_off z]; exact h5 i a (by omega)
    · rename_i q
      rw [if_neg q] at b
      exact h5 i a b
