/-! ===== the calls over regions: both answer the same ===== -/
theorem fgX_no {M : Mem} (hS : zSk M 0) (r c : Int) : ¬ vX (tsX M 0) (fgX M) r c := by
  intro z
  obtain ⟨a1, a2, a3, a4, -⟩ := hS
  have hi := z.1
  rw [inT_X] at hi
  have hi := of_decide_eq_true hi
  exact z.2 (fgX_35 (by omega))
theorem fgX_ts {M : Mem} : tsX (fgX M) 0 = tsX M 0 := tsX_congr (fgX_off (by decide)) (fgX_off (by decide)) (fgX_off (by decide))
theorem fgX_cl {M : Mem} {e : Nat} (hS : zSk M 0) : zCl (tsX M 0) e (vX (tsX M 0) (fgX M)) := fun _ _ _ _ _ _ _ h => absurd h (fgX_no hS _ _)
/-- one region of the class, from nothing -/
theorem fgR_reg {M : Mem} {r c : Int} {e : Nat} (he : e = 1 ∨ e = 2) (hS : zSk M 0) (hi : inT (tsX M 0) r c = true) :
    fgR M r c e 33 2 = (((zFr (tsX M 0) r c e).2.2.1 : Nat) : Int) ∧ ∀ r' c' : Int, inT (tsX M 0) r' c' = true → fgR M r c e 35 (r' * 12 + c') = (zFr (tsX M 0) r c e).1 r' c' := by
  have hF := fgX_P hS
  have hi' := hi
  obtain ⟨a1, a2, a3, a4, -⟩ := id hS
  rw [inT_X] at hi'
  have hi' := of_decide_eq_true hi'
  have g := X_reg (M := fgX M) (r := r) (c := c) he hF.1 hF.2.2.2 (by rw [fgX_ts]; exact hi) (fgX_35 (by omega)) (by rw [fgX_ts]; exact fgX_cl hS)
  rw [fgX_ts] at g
  exact ⟨g.1, fun r' c' h => (g.2.2.1 r' c' h).1 (fgX_no hS r' c')⟩
/-- over all regions of a kind -/
def rgXz (l : Bool) (e : Nat) (g : Int → Int → Int → Int → Int × Int → Int × Int) (i j : Int) (q : Mem × (Int × Int)) : Mem × (Int × Int) := if laT (tsX q.1 0) i j = l ∧ q.1 35 (i * 12 + j) = -1 then (ovX q.1 l i j e 144, g i j (ovX q.1 l i j e 144 33 2) (ovX q.1 l i j e 144 33 3) q.2) else q
/-- what seeFound marks -/
theorem sfM_1 {M : Mem} : ∀ (n : Nat) (z : Int), sfM M n 51 z = 1 ↔ (M 51 z = 1 ∨ ∃ i : Nat, i < n ∧ M 46 i = z)
  | 0, z => ⟨Or.inl, fun h => h.elim id (fun ⟨i, hi, _⟩ => absurd hi (Nat.not_lt_zero i))⟩
  | n + 1, z => by
    show zup (sfM M n) 51 (M 46 n) (zbz true) 51 z = 1 ↔ _
    by_cases e : z = M 46 n
    · rw [e, zup_at]
      exact ⟨fun _ => Or.inr ⟨n, Nat.lt_succ_self n, rfl⟩, fun _ => rfl⟩
    · rw [zup_off e, sfM_1 n z]
      constructor
      · rintro (h | ⟨i, hi, h⟩)
        · exact Or.inl h
        · exact Or.inr ⟨i, by omega, h⟩
      · rintro (h | ⟨i, hi, h⟩)
        · exact Or.inl h
        · by_cases q : i = n
          · subst q; exact absurd h.symm e
          · exact Or.inr ⟨i, by omega, h⟩
