/-! ===== turn: both do the same ===== -/
noncomputable def tsU (T : TS) (o : Bool) (P : Int → Int → Prop) : TS := (tW T, tH T, o, fun r c => (inT T (tH T - 1 - c) r && zcl (P (tH T - 1 - c) r)) && laT T (tH T - 1 - c) r, fun r c => if (inT T (tH T - 1 - c) r && zcl (P (tH T - 1 - c) r)) = true ∧ piT T (tH T - 1 - c) r ≠ -1 then tuZ (piT T (tH T - 1 - c) r) 1 else -1)
theorem tsU_0 {T : TS} {o : Bool} : tsU T o (fun _ _ => False) = tsW (tW T) (tH T) o := by
  refine ts_ext rfl rfl rfl (fun r c => ?_) (fun r c => ?_)
  · show ((inT T (tH T - 1 - c) r && zcl False) && laT T (tH T - 1 - c) r) = false
    rw [zcl_f (fun h => h), Bool.and_false, Bool.false_and]
  · show (if (inT T (tH T - 1 - c) r && zcl False) = true ∧ piT T (tH T - 1 - c) r ≠ -1 then tuZ (piT T (tH T - 1 - c) r) 1 else -1) = -1
    rw [zcl_f (fun h => h), Bool.and_false, if_neg (fun z => absurd z.1 (by decide))]
theorem tsU_s {T : TS} {o : Bool} {P : Int → Int → Prop} {i j : Int} (hi : inT T i j = true) :
    (if piT T i j ≠ -1 then tsP (tsS (tsU T o P) j (tH T - 1 - i) (laT T i j)) j (tH T - 1 - i) (tuZ (piT T i j) 1) else tsS (tsU T o P) j (tH T - 1 - i) (laT T i j)) = tsU T o (fun r c => P r c ∨ (r = i ∧ c = j)) := by
  have hb := of_decide_eq_true hi
  have hin : inT (tsU T o P) j (tH T - 1 - i) = true := decide_eq_true (show 0 ≤ j ∧ j < tW T ∧ 0 ≤ tH T - 1 - i ∧ tH T - 1 - i < tH T by omega)
  have ei : tH T - 1 - (tH T - 1 - i) = i := by omega
  have hla : laT (tsU T o P) j (tH T - 1 - i) = (zcl (P i j) && laT T i j) := by
    unfold laT
    rw [hin]
    show ((inT T (tH T - 1 - (tH T - 1 - i)) j && zcl (P (tH T - 1 - (tH T - 1 - i)) j)) && laT T (tH T - 1 - (tH T - 1 - i)) j) = (zcl (P i j) && (if inT T i j then T.2.2.2.1 i j else tO T))
    rw [ei, hi, Bool.true_and]
    unfold laT
    rw [hi]
  have hS : ∀ r c : Int, (tsS (tsU T o P) j (tH T - 1 - i) (laT T i j)).2.2.2.1 r c = (tsU T o (fun r c => P r c ∨ (r = i ∧ c = j))).2.2.2.1 r c ∧ (tsS (tsU T o P) j (tH T - 1 - i) (laT T i j)).2.2.2.2 r c = (if r = j ∧ c = tH T - 1 - i then (if zcl (P i j) = true ∧ piT T i j ≠ -1 then tuZ (piT T i j) 1 else -1) else (tsU T o (fun r c => P r c ∨ (r = i ∧ c = j))).2.2.2.2 r c) := by
    intro r c
    have eU1 : (tsU T o (fun r c => P r c ∨ (r = i ∧ c = j))).2.2.2.1 r c = ((inT T (tH T - 1 - c) r && zcl (P (tH T - 1 - c) r ∨ (tH T - 1 - c = i ∧ r = j))) && laT T (tH T - 1 - c) r) := rfl
    have eU2 : (tsU T o (fun r c => P r c ∨ (r = i ∧ c = j))).2.2.2.2 r c = (if (inT T (tH T - 1 - c) r && zcl (P (tH T - 1 - c) r ∨ (tH T - 1 - c = i ∧ r = j))) = true ∧ piT T (tH T - 1 - c) r ≠ -1 then tuZ (piT T (tH T - 1 - c) r) 1 else -1) := rfl
    have eP1 : (tsU T o P).2.2.2.1 r c = ((inT T (tH T - 1 - c) r && zcl (P (tH T - 1 - c) r)) && laT T (tH T - 1 - c) r) := rfl
    have eP2 : (tsU T o P).2.2.2.2 r c = (if (inT T (tH T - 1 - c) r && zcl (P (tH T - 1 - c) r)) = true ∧ piT T (tH T - 1 - c) r ≠ -1 then tuZ (piT T (tH T - 1 - c) r) 1 else -1) := rfl
    rw [eU1, eU2]
    by_cases e : r = j ∧ c = tH T - 1 - i
    · have e2 : tH T - 1 - c = i := by omega
      rw [if_pos e, e2, e.1, hi, zcl_y (Or.inr ⟨rfl, rfl⟩)]
      unfold tsS
      by_cases q : inT (tsU T o P) j (tH T - 1 - i) = true ∧ laT (tsU T o P) j (tH T - 1 - i) ≠ laT T i j
      · rw [if_pos q]
        have q2 := q.2
        rw [hla] at q2
        have hz : zcl (P i j) = false := by
          cases z : zcl (P i j)
          · rfl
          · rw [z] at q2
            exact absurd rfl q2
        refine ⟨?_, ?_⟩
        · show (if j = j ∧ c = tH T - 1 - i then laT T i j else _) = _
          rw [if_pos ⟨rfl, e.2⟩]
          rfl
        · show (if j = j ∧ c = tH T - 1 - i then (-1 : Int) else _) = _
          rw [if_pos ⟨rfl, e.2⟩, hz, if_neg (fun z => absurd z.1 (by decide))]
      · rw [if_neg q]
        have q2 : laT (tsU T o P) j (tH T - 1 - i) = laT T i j := Classical.not_not.mp (fun z => q ⟨hin, z⟩)
        rw [hla] at q2
        rw [show (tsU T o P).2.2.2.1 j c = ((inT T (tH T - 1 - c) j && zcl (P (tH T - 1 - c) j)) && laT T (tH T - 1 - c) j) from rfl, show (tsU T o P).2.2.2.2 j c = (if (inT T (tH T - 1 - c) j && zcl (P (tH T - 1 - c) j)) = true ∧ piT T (tH T - 1 - c) j ≠ -1 then tuZ (piT T (tH T - 1 - c) j) 1 else -1) from rfl, e2, hi, Bool.true_and]
        exact ⟨q2, rfl⟩
    · have hne : ¬ (tH T - 1 - c = i ∧ r = j) := fun z => e ⟨z.2, by omega⟩
      rw [if_neg e, zcl_c (show (P (tH T - 1 - c) r ∨ (tH T - 1 - c = i ∧ r = j)) ↔ P (tH T - 1 - c) r from ⟨fun z => z.resolve_right hne, Or.inl⟩), ← eP1, ← eP2]
      unfold tsS
      split
      · exact ⟨if_neg e, if_neg e⟩
      · exact ⟨rfl, rfl⟩
  have hd : tH (tsS (tsU T o P) j (tH T - 1 - i) (laT T i j)) = tW T ∧ tW (tsS (tsU T o P) j (tH T - 1 - i) (laT T i j)) = tH T ∧ tO (tsS (tsU T o P) j (tH T - 1 - i) (laT T i j)) = o := by
    unfold tsS
    split <;> exact ⟨rfl, rfl, rfl⟩
  have eU : (tsU T o (fun r c => P r c ∨ (r = i ∧ c = j))).2.2.2.2 j (tH T - 1 - i) = (if piT T i j ≠ -1 then tuZ (piT T i j) 1 else -1) := by
    show (if (inT T (tH T - 1 - (tH T - 1 - i)) j && zcl (P (tH T - 1 - (tH T - 1 - i)) j ∨ (tH T - 1 - (tH T - 1 - i) = i ∧ j = j))) = true ∧ piT T (tH T - 1 - (tH T - 1 - i)) j ≠ -1 then tuZ (piT T (tH T - 1 - (tH T - 1 - i)) j) 1 else -1) = _
    rw [ei, hi, zcl_y (Or.inr ⟨rfl, rfl⟩)]
    by_cases z : piT T i j ≠ -1
    · rw [if_pos z, if_pos ⟨rfl, z⟩]
    · rw [if_neg z, if_neg (fun w => z w.2)]
  by_cases hp : piT T i j ≠ -1
  · rw [if_pos hp]
    have hin2 : inT (tsS (tsU T o P) j (tH T - 1 - i) (laT T i j)) j (tH T - 1 - i) = true := by rw [inT_S]; exact hin
    unfold tsP
    rw [if_pos hin2]
    refine ts_ext hd.1 hd.2.1 hd.2.2 (fun r c => (hS r c).1) (fun r c => ?_)
    show (if r = j ∧ c = tH T - 1 - i then tuZ (piT T i j) 1 else (tsS (tsU T o P) j (tH T - 1 - i) (laT T i j)).2.2.2.2 r c) = _
    by_cases e : r = j ∧ c = tH T - 1 - i
    · rw [if_pos e, e.1, e.2, eU, if_pos hp]
    · rw [if_neg e, (hS r c).2, if_neg e]
  · rw [if_neg hp]
    refine ts_ext hd.1 hd.2.1 hd.2.2 (fun r c => (hS r c).1) (fun r c => ?_)
    rw [(hS r c).2]
    by_cases e : r = j ∧ c = tH T - 1 - i
    · rw [if_pos e, e.1, e.2, eU, if_neg hp, if_neg (fun z => hp z.2)]
    · rw [if_neg e]
def VU (T : TS) (o : Bool) (M0 M : Mem) (P : Int → Int → Prop) : Prop := tsX M 0 = tsU T o P ∧ tuP M0 M
theorem turn_X {M : Mem} (h0 : zSk M 0) (h1 : zSk M 1) (ho : M 0 2 = M 1 2) : tsX (tuM M) 0 = toT (tsX M 1) := by
  have hpb : ∀ r c : Int, -1 ≤ piT (tsX M 1) r c ∧ piT (tsX M 1) r c < 47 := fun r c => piT_bd h1 r c
  obtain ⟨a1, a2, a3, a4, -⟩ := id h1
  have s0 : VU (tsX M 1) (tO (tsX M 1)) M (watM M 0 (M 1 1) (M 1 0) 144) (fun _ _ => False) := by
    refine ⟨?_, zSk_watM ⟨a3, a4⟩ ⟨a1, a2⟩ h0.2.2.2.2.1, fun k x y z => watM_off x y z⟩
    rw [tsU_0, tsX_watM ⟨a3, a4⟩ ⟨a1, a2⟩, ho]
    rfl
  have inner : ∀ i : Nat, i < (tH (tsX M 1)).toNat → ∀ (Q : Mem) (P : Int → Int → Prop), VU (tsX M 1) (tO (tsX M 1)) M Q P → VU (tsX M 1) (tO (tsX M 1)) M (tuO (tsX M 1) i Q) (fun r c => P r c ∨ ∃ j : Nat, j < (tW (tsX M 1)).toNat ∧ (r = i ∧ c = j)) := fun i hi Q P h =>
    zVrep (N := (tW (tsX M 1)).toNat) (f := tuI (tsX M 1) i) (VS := VU (tsX M 1) (tO (tsX M 1)) M) (A := fun (j : Nat) r c => r = i ∧ c = j) (fun j hj Q P h => by
      have hin : inT (tsX M 1) i j = true := decide_eq_true ⟨by omega, by omega, by omega, by omega⟩
      refine ⟨?_, tuI_P hpb h.2⟩
      rw [← tsU_s hin, ← h.1]
      unfold tuI
      split
      · rw [tsX_putP (zSk_putK h.2.1), tsX_putK h.2.1]
      · rw [tsX_putK h.2.1]) h _ (Nat.le_refl _)
  have g := (zVrep (N := (tH (tsX M 1)).toNat) (f := tuO (tsX M 1)) (VS := VU (tsX M 1) (tO (tsX M 1)) M) inner s0 (tH (tsX M 1)).toNat (Nat.le_refl _)).1
  have g2 : tsX (tuM M) 0 = _ := g
  rw [g2]
  have hin : ∀ r c : Int, inT (tsX M 1) r c = true → (False ∨ ∃ i : Nat, i < (tH (tsX M 1)).toNat ∧ ∃ j : Nat, j < (tW (tsX M 1)).toNat ∧ (r = i ∧ c = j)) := fun r c h => by
    have hb := of_decide_eq_true h
    exact Or.inr ⟨r.toNat, by omega, c.toNat, by omega, by omega, by omega⟩
  refine ts_ext rfl rfl rfl (fun r c => ?_) (fun r c => ?_)
  · show ((inT (tsX M 1) (tH (tsX M 1) - 1 - c) r && zcl _) && laT (tsX M 1) (tH (tsX M 1) - 1 - c) r) = (tsX M 1).2.2.2.1 (tH (tsX M 1) - 1 - c) r
    cases hi : inT (tsX M 1) (tH (tsX M 1) - 1 - c) r
    · rw [Bool.false_and, Bool.false_and]
      show false = (decide _ && decide _)
      rw [inT_X] at hi
      rw [hi, Bool.false_and]
    · rw [zcl_y (hin _ _ hi)]
      show laT (tsX M 1) _ _ = _
      unfold laT
      rw [hi]
      rfl
  · show (if (inT (tsX M 1) (tH (tsX M 1) - 1 - c) r && zcl _) = true ∧ piT (tsX M 1) (tH (tsX M 1) - 1 - c) r ≠ -1 then tuZ (piT (tsX M 1) (tH (tsX M 1) - 1 - c) r) 1 else -1) = (if (tsX M 1).2.2.2.2 (tH (tsX M 1) - 1 - c) r = -1 then -1 else tuZ ((tsX M 1).2.2.2.2 (tH (tsX M 1) - 1 - c) r) 1)
    cases hi : inT (tsX M 1) (tH (tsX M 1) - 1 - c) r
    · rw [Bool.false_and, if_neg (fun z => absurd z.1 (by decide))]
      have : (tsX M 1).2.2.2.2 (tH (tsX M 1) - 1 - c) r = -1 := by
        show (if _ then _ else _) = _
        rw [inT_X] at hi
        exact if_neg (of_decide_eq_false hi)
      rw [this]
      rfl
    · rw [zcl_y (hin _ _ hi)]
      have e : piT (tsX M 1) (tH (tsX M 1) - 1 - c) r = (tsX M 1).2.2.2.2 (tH (tsX M 1) - 1 - c) r := by
        unfold piT
        rw [hi]
        rfl
      rw [e]
      by_cases z : (tsX M 1).2.2.2.2 (tH (tsX M 1) - 1 - c) r = -1
      · rw [if_neg (fun w => w.2 z), if_pos z]
      · rw [if_pos ⟨rfl, z⟩, if_neg z]
theorem trS_ts {M : Mem} {i : Nat} (hS : zSk M 0) : tsX (trS i M) 0 = toT (tsX M 0) := by
  have h0 : zSk (copM M 1 0 144) 0 := zSk_congr (copM_offf (by decide) (by decide) (by decide)) (copM_offf (by decide) (by decide) (by decide)) (copM_offf (by decide) (by decide) (by decide)) hS
  have h1 : zSk (copM M 1 0 144) 1 := zSk_copM hS
  have e0 : copM M 1 0 144 0 2 = copM M 1 0 144 1 2 := by
    rw [copM_off (by decide) (by decide) (by decide), copM_k (by decide)]
  have g := turn_X h0 h1 e0
  rw [tsX_copM hS] at g
  exact g
theorem TOk_T {t : TS} (hO : TOk t) : TOk (toT t) := by
  obtain ⟨h1, h2, h3, h4, h5⟩ := hO
  refine ⟨h3, h4, h1, h2, fun r c => ?_⟩
  have hin : inT (toT t) r c = inT t (tH t - 1 - c) r := by
    unfold inT
    show decide (0 ≤ r ∧ r < tW t ∧ 0 ≤ c ∧ c < tH t) = decide (0 ≤ tH t - 1 - c ∧ tH t - 1 - c < tH t ∧ 0 ≤ r ∧ r < tW t)
    by_cases q : 0 ≤ r ∧ r < tW t ∧ 0 ≤ c ∧ c < tH t
    · rw [decide_eq_true q, decide_eq_true (by omega)]
    · rw [decide_eq_false q, decide_eq_false (by omega)]
  have g := h5 (tH t - 1 - c) r
  unfold piT laT at g ⊢
  rw [hin]
  cases hi : inT t (tH t - 1 - c) r
  · exact Or.inl rfl
  · rw [hi] at g
    show (if t.2.2.2.2 (tH t - 1 - c) r = -1 then (-1 : Int) else tuZ (t.2.2.2.2 (tH t - 1 - c) r) 1) = -1 ∨ (0 ≤ (if t.2.2.2.2 (tH t - 1 - c) r = -1 then (-1 : Int) else tuZ (t.2.2.2.2 (tH t - 1 - c) r) 1) ∧ (if t.2.2.2.2 (tH t - 1 - c) r = -1 then (-1 : Int) else tuZ (t.2.2.2.2 (tH t - 1 - c) r) 1) < 47 ∧ t.2.2.2.1 (tH t - 1 - c) r = true)
    have g2 : t.2.2.2.2 (tH t - 1 - c) r = -1 ∨ (0 ≤ t.2.2.2.2 (tH t - 1 - c) r ∧ t.2.2.2.2 (tH t - 1 - c) r < 47 ∧ t.2.2.2.1 (tH t - 1 - c) r = true) := g
    rcases g2 with z | z
    · rw [if_pos z]; exact Or.inl rfl
    · have := tuZ_ok ⟨z.1, z.2.1⟩
      rw [if_neg (by omega)]
      exact Or.inr ⟨this.1, this.2, z.2.2⟩
